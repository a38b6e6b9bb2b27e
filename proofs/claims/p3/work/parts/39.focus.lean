/-- the step of the program that a local's object holds -/
noncomputable def hFocusO (at_ loc obj f : Nat) : HF := fun pc lv A pr nx tab fs => bif Nat.beq pc at_ then (match srcV loc lv A, alGet obj lv with
  | some (.inl (false, e)), some (.inr (.inl (some o))) => (match cst tab e, A[o]? with
    | some (.ofNat v), some (.inl (_, as)) => (match refAt as f, refAt as (Nat.succ f), refAt as (Nat.succ (Nat.succ f)), refAt as (Nat.succ (Nat.succ (Nat.succ f))) with
      | some t, some a, some b, some c => bif (bif Nat.blt v 60 then pr.any (fun p => decide (p = (0, [t, a, b, c], []))) else false) then allCases A pr nx tab fs (recCases t v a v b v c v) else none
      | _, _, _, _ => none)
    | _, _ => none)
  | _, _ => none) else none
theorem hFocusO_ok (at_ loc obj f : Nat) : HFOk PPk (hFocusO at_ loc obj f) := by
  intro pc lv A pr nx tab fs L ρ clv cσ h hr hp
  have hr' : ∀ ρ', agr2 nx ρ ρ' → tOk ρ' tab ∧ fOk ρ' fs ∧ rel2 (crel ρ') cσ A := fun ρ' ha => ⟨(hr ρ' ha).1, (hr ρ' ha).2.1, (hr ρ' ha).2.2.2⟩
  unfold hFocusO at h
  cases h0 : Nat.beq pc at_ with
  | false => rw [h0] at h; cases h
  | true =>
    rw [h0] at h
    simp only [cond_true] at h
    split at h
    · split at h
      · rename_i v _ _ _ _
        split at h
        · rename_i t a b c _ _ _ _
          cases z : (bif Nat.blt v 60 then pr.any (fun p => decide (p = (0, [t, a, b, c], []))) else false) with
          | false => rw [z] at h; cases h
          | true =>
            rw [z] at h
            obtain ⟨z1, z2⟩ := cand z
            have hv' := blt_iff.mp z1
            obtain ⟨p, hm, hpe⟩ := List.any_eq_true.mp z2
            have hpe' := of_decide_eq_true hpe
            subst hpe'
            have hP : okProg _ _ _ _ := hp ρ agr2.rf _ hm
            exact allCases_ok hr' hp _ L (cT h) (recCases_ok (hP.2 v hv') (by rw [hP.1.1]; exact hv') (by rw [hP.1.2.1]; exact hv') (by rw [hP.1.2.2.1]; exact hv') (by rw [hP.1.2.2.2]; exact hv'))
        · cases h
      · cases h
    · cases h
/-- an element of the row in a local, at a place told, gets a name -/
noncomputable def hExpose (at_ loc obj : Nat) : HF := fun pc lv A pr nx tab fs => bif Nat.beq pc at_ then (match srcV loc lv A, alGet obj lv with
  | some (.inl (false, e)), some (.inr (.inl (some q))) => (match cst tab e with
    | some (.ofNat v) => (match cellB tab A q v with
      | some (lo, hi) => allCases A pr nx tab fs [[(q, v, lo, hi)]]
      | none => none)
    | _ => none)
  | _, _ => none) else none
theorem hExpose_ok (at_ loc obj : Nat) : HFOk PPk (hExpose at_ loc obj) := by
  intro pc lv A pr nx tab fs L ρ clv cσ h hr hp
  have hr' : ∀ ρ', agr2 nx ρ ρ' → tOk ρ' tab ∧ fOk ρ' fs ∧ rel2 (crel ρ') cσ A := fun ρ' ha => ⟨(hr ρ' ha).1, (hr ρ' ha).2.1, (hr ρ' ha).2.2.2⟩
  have hr0 := hr ρ agr2.rf
  unfold hExpose at h
  cases h0 : Nat.beq pc at_ with
  | false => rw [h0] at h; cases h
  | true =>
    rw [h0] at h
    simp only [cond_true] at h
    split at h
    · split at h
      · split at h
        · rename_i lo hi hc
          have hb := cellB_ok hr0.1 hr0.2.2.2 hc
          exact allCases_ok hr' hp _ L h ⟨_, List.mem_cons_self, List.forall_mem_cons.mpr ⟨el_of hb.1 hb.2.1 hb.2.2, fun _ hh => (by cases hh)⟩⟩
        · cases h
      · cases h
    · cases h
/-- an element of the row in a local, at a place told, below 0, 0, above 0 -/
noncomputable def hSigns (at_ loc obj : Nat) : HF := fun pc lv A pr nx tab fs => bif Nat.beq pc at_ then (match srcV loc lv A, alGet obj lv with
  | some (.inl (false, e)), some (.inr (.inl (some q))) => (match cst tab e with
    | some (.ofNat v) => (match cellB tab A q v with
      | some (lo, hi) => allCases A pr nx tab fs [[(q, v, lo, -1)], [(q, v, 0, 0)], [(q, v, 1, hi)]]
      | none => none)
    | _ => none)
  | _, _ => none) else none
theorem hSigns_ok (at_ loc obj : Nat) : HFOk PPk (hSigns at_ loc obj) := by
  intro pc lv A pr nx tab fs L ρ clv cσ h hr hp
  have hr' : ∀ ρ', agr2 nx ρ ρ' → tOk ρ' tab ∧ fOk ρ' fs ∧ rel2 (crel ρ') cσ A := fun ρ' ha => ⟨(hr ρ' ha).1, (hr ρ' ha).2.1, (hr ρ' ha).2.2.2⟩
  have hr0 := hr ρ agr2.rf
  unfold hSigns at h
  cases h0 : Nat.beq pc at_ with
  | false => rw [h0] at h; cases h
  | true =>
    rw [h0] at h
    simp only [cond_true] at h
    split at h
    · split at h
      · split at h
        · rename_i lo hi hc
          have hb := cellB_ok hr0.1 hr0.2.2.2 hc
          refine allCases_ok hr' hp _ L h ?_
          rcases Int.lt_trichotomy (gI (arrI (cσ.getD _ (.inl (0, [])))) _) 0 with hs | hs | hs
          · exact ⟨_, List.mem_cons_self, List.forall_mem_cons.mpr ⟨el_of hb.1 hb.2.1 (Int.le_sub_one_of_lt hs), fun _ hh => (by cases hh)⟩⟩
          · exact ⟨_, List.mem_cons_of_mem _ List.mem_cons_self, List.forall_mem_cons.mpr ⟨el_of hb.1 (Int.le_of_eq hs.symm) (Int.le_of_eq hs), fun _ hh => (by cases hh)⟩⟩
          · exact ⟨_, List.mem_cons_of_mem _ (List.mem_cons_of_mem _ List.mem_cons_self), List.forall_mem_cons.mpr ⟨el_of hb.1 hs hb.2.2, fun _ hh => (by cases hh)⟩⟩
        · cases h
      · cases h
    · cases h
/-- a local's values 0 .. m, one by one -/
noncomputable def spl (A : AH) (pr : List PD) (nx : Nat) (tab : Tb) (fs : List Ln) (y lo m : Nat) : List HR := ((List.range (Nat.succ m)).filter (Nat.ble lo)).map (fun v => (A, pr, nx, tbIns y (.ofNat v) (.ofNat v) tab, fs))
noncomputable def hSplit (at_ loc : Nat) : HF := fun pc lv A pr nx tab fs => bif Nat.beq pc at_ then (match srcV loc lv A with
  | some (.inl (false, (.ofNat 0, [(y, .ofNat 1)]))) => (match bndL tab (sL y) with
    | some (.ofNat lo, .ofNat m) => bif (bif Nat.blt y nx then Nat.blt m 100 else false) then some (spl A pr nx tab fs y lo m) else none
    | _ => none)
  | _ => none) else none
theorem hSplit_ok (at_ loc : Nat) : HFOk PPk (hSplit at_ loc) := by
  intro pc lv A pr nx tab fs L ρ clv cσ h hr hp
  have hr0 := hr ρ agr2.rf
  unfold hSplit at h
  cases h0 : Nat.beq pc at_ with
  | false => rw [h0] at h; cases h
  | true =>
    rw [h0] at h
    simp only [cond_true] at h
    split at h
    · rename_i y _
      split at h
      · rename_i lo m hb
        cases z : (bif Nat.blt y nx then Nat.blt m 100 else false) with
        | false => rw [z] at h; cases h
        | true =>
          rw [z] at h
          cases h
          obtain ⟨z1, z2⟩ := cand z
          have hy := blt_iff.mp z1
          have hB := bndL_ok hr0.1 hb
          rw [ev_s] at hB
          obtain ⟨v, hv⟩ : ∃ v : Nat, ρ y = v := ⟨(ρ y).toNat, by have : (lo : Int) ≤ ρ y := hB.1; omega⟩
          have hm : v ≤ m := by have : ρ y ≤ (m : Int) := hB.2; omega
          refine ⟨_, List.mem_map.mpr ⟨v, List.mem_filter.mpr ⟨List.mem_range.mpr (Nat.lt_succ_of_le hm), Nat.ble_eq_true_of_le (by have : (lo : Int) ≤ ρ y := hB.1; omega)⟩, rfl⟩, ρ, Nat.le_refl _, agr2.rf, fun ρ' ha => ?_, hp⟩
          have hy' : ρ' y = v := (ha y hy).trans hv
          exact ⟨tOk_cons (hr ρ' ha).1 (Int.le_of_eq hy'.symm) (Int.le_of_eq hy'), (hr ρ' ha).2.1, (hr ρ' ha).2.2.2⟩
      · cases h
    · cases h
/-- a local's value up to c, c + 1, above -/
noncomputable def hTri (at_ loc c : Nat) : HF := fun pc lv A pr nx tab fs => bif Nat.beq pc at_ then (match srcV loc lv A with
  | some (.inl (false, (.ofNat 0, [(y, .ofNat 1)]))) => (match bndL tab (sL y) with
    | some (lo, hi) => bif Nat.blt y nx then some [(A, pr, nx, tbIns y lo (.ofNat c) tab, fs), (A, pr, nx, tbIns y (.ofNat (Nat.succ c)) (.ofNat (Nat.succ c)) tab, fs), (A, pr, nx, tbIns y (.ofNat (Nat.succ (Nat.succ c))) hi tab, fs)] else none
    | _ => none)
  | _ => none) else none
theorem hTri_ok (at_ loc c : Nat) : HFOk PPk (hTri at_ loc c) := by
  intro pc lv A pr nx tab fs L ρ clv cσ h hr hp
  have hr0 := hr ρ agr2.rf
  unfold hTri at h
  cases h0 : Nat.beq pc at_ with
  | false => rw [h0] at h; cases h
  | true =>
    rw [h0] at h
    simp only [cond_true] at h
    split at h
    · rename_i y _
      split at h
      · rename_i lo hi hb
        cases z1 : Nat.blt y nx with
        | false => rw [z1] at h; cases h
        | true =>
          rw [z1] at h
          cases h
          have hy := blt_iff.mp z1
          have hB := bndL_ok hr0.1 hb
          rw [ev_s] at hB
          have fin : ∀ a b : Int, a ≤ ρ y → ρ y ≤ b → ∀ ρ', agr2 nx ρ ρ' → tOk ρ' (tbIns y a b tab) ∧ fOk ρ' fs ∧ rel2 (crel ρ') cσ A := fun a b h1 h2 ρ' ha => by
            have hy' : ρ' y = ρ y := ha y hy
            exact ⟨tOk_cons (hr ρ' ha).1 (by rw [hy']; exact h1) (by rw [hy']; exact h2), (hr ρ' ha).2.1, (hr ρ' ha).2.2.2⟩
          rcases Int.lt_trichotomy (ρ y) ((Nat.succ c : Nat) : Int) with hs | hs | hs
          · exact ⟨_, List.mem_cons_self, ρ, Nat.le_refl _, agr2.rf, fin _ _ hB.1 (by show ρ y ≤ (c : Int); omega), hp⟩
          · exact ⟨_, List.mem_cons_of_mem _ List.mem_cons_self, ρ, Nat.le_refl _, agr2.rf, fin _ _ (Int.le_of_eq hs.symm) (Int.le_of_eq hs), hp⟩
          · exact ⟨_, List.mem_cons_of_mem _ (List.mem_cons_of_mem _ List.mem_cons_self), ρ, Nat.le_refl _, agr2.rf, fin _ _ (by show ((Nat.succ (Nat.succ c) : Nat) : Int) ≤ ρ y; omega) hB.2, hp⟩
      · cases h
    · cases h
/-- the row in a local forgets its elements -/
noncomputable def hForget (at_ obj : Nat) : HF := fun pc lv A pr nx tab fs => bif Nat.beq pc at_ then (match alGet obj lv with
  | some (.inr (.inl (some q))) => (match A[q]? with
    | some (.inr (k, .inl s)) => bif Nat.blt k 100 then some [(A.set q (.inr (k, .inl [.inr (sgLen s, lo32, hi32)])), pr, nx, tab, fs)] else none
    | _ => none)
  | _ => none) else none
theorem hForget_ok (at_ obj : Nat) : HFOk PPk (hForget at_ obj) := by
  intro pc lv A pr nx tab fs L ρ clv cσ h hr hp
  unfold hForget at h
  cases h0 : Nat.beq pc at_ with
  | false => rw [h0] at h; cases h
  | true =>
    rw [h0] at h
    simp only [cond_true] at h
    split at h
    · split at h
      · rename_i q _ _ k s hc
        cases hk : Nat.blt k 100 with
        | false => rw [hk] at h; cases h
        | true =>
          rw [hk] at h
          cases h
          refine ⟨_, List.mem_cons_self, ρ, Nat.le_refl _, agr2.rf, fun ρ' ha => ?_, hp⟩
          obtain ⟨w1, w2, _, w3⟩ := hr ρ' ha
          refine ⟨w1, w2, ?_⟩
          obtain ⟨cc, c1, c2⟩ := rel2_get w3 hc
          obtain ⟨l, e1, e2⟩ := crI_inv (blt_iff.mp hk) c2
          subst e1
          have hset := rel2_set w3 (i := q) (a := (.inr (k, .inl l) : SC)) (b := .inr (k, .inl [.inr (sgLen s, lo32, hi32)])) (arel_mk (blt_iff.mp hk) ⟨l, [], (List.append_nil l).symm, srel_len e2, fun y _ => in32 y, rfl⟩)
          have e7 : cσ.set q (.inr (k, .inl l)) = cσ := by
            refine List.ext_getElem? fun j => ?_
            by_cases hj : q = j
            · subst hj
              rw [List.getElem?_set_self (List.getElem?_eq_some_iff.mp c1).1, c1]
            · rw [List.getElem?_set_ne hj]
          rw [e7] at hset
          exact hset
      · cases h
    · cases h
