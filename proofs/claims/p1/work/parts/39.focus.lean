/-- the step of the program that a local's object holds -/
def hFocusO (at_ loc obj f : Nat) : HN := fun pc lv A pr nx tab fs => bif Nat.beq pc at_ then (match srcV loc lv A, alGet obj lv with
  | some (.inl (false, e)), some (.inr (.inl (some o))) => (match cst tab e, A[o]? with
    | some (.ofNat v), some (.inl (_, as)) => (match refAt as f, refAt as (Nat.succ f), refAt as (Nat.succ (Nat.succ f)), refAt as (Nat.succ (Nat.succ (Nat.succ f))) with
      | some t, some a, some b, some c => bif (bif Nat.blt v 60 then pr.any (fun p => decide (p = (0, [t, a, b, c]))) else false) then allCases A pr nx tab fs (recCases t v a v b v c v) else none
      | _, _, _, _ => none)
    | _, _ => none)
  | _, _ => none) else none
theorem hFocusO_ok (at_ loc obj f : Nat) : HintOk PPk (hFocusO at_ loc obj f) := by
  intro pc lv A pr nx tab fs L ρ clv cσ h hr hp
  have hr' : ∀ ρ', agr2 nx ρ ρ' → tOk ρ' tab ∧ fOk ρ' fs ∧ rel2 (crel ρ') cσ A := fun ρ' ha => ⟨(hr ρ' ha).1, (hr ρ' ha).2.1, (hr ρ' ha).2.2.2⟩
  unfold hFocusO at h
  cases h0 : Nat.beq pc at_ with
  | false => rw [h0] at h; cases h
  | true =>
    rw [h0] at h
    simp only [cond_true] at h
    split at h
    · split at h
      · rename_i v _ _ _ _
        split at h
        · rename_i t a b c _ _ _ _
          cases z : (bif Nat.blt v 60 then pr.any (fun p => decide (p = (0, [t, a, b, c]))) else false) with
          | false => rw [z] at h; cases h
          | true =>
            rw [z] at h
            obtain ⟨z1, z2⟩ := cand z
            have hv' := blt_iff.mp z1
            obtain ⟨p, hm, hpe⟩ := List.any_eq_true.mp z2
            have hpe' := of_decide_eq_true hpe
            subst hpe'
            have hP : okProg _ _ _ _ := hp _ hm
            exact allCases_ok hr' hp _ L h (recCases_ok (hP.2 v hv') (by rw [hP.1.1]; exact hv') (by rw [hP.1.2.1]; exact hv') (by rw [hP.1.2.2.1]; exact hv') (by rw [hP.1.2.2.2]; exact hv'))
        · cases h
      · cases h
    · cases h
