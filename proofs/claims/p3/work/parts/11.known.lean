/-! ===== the tables' numbers of the classes; the law out of a run of the shadow machine ===== -/
theorem classes_len : classes.length = 13 := by decide
theorem known {s : State} {args : Array Value} (hts : ∀ w ∈ lw_tbl, w.before args s = true) : ∃ (dC : Nat → ClassId) (dI : Nat → Nat → Nat) (dA : Nat → ClassId), va_K (dC, dI) classes (tysA dA) s := by
  have hg : ∀ w ∈ lw_g, w.before args s = true := fun w hw => hts w (List.mem_filter.mp hw).1
  have h1 : ∀ a, ∃ (cC : ClassId) (iS : Nat → Nat), a < 13 → u_Kn s (ownN a) (clT a) (clN a) cC iS := by
    intro a
    by_cases h : a < 13
    · obtain ⟨cC, iS, hk⟩ := u_known hg (cls_in h) (hts _ (cls_inst h))
      exact ⟨cC, iS, fun _ => hk⟩
    · exact ⟨default, fun _ => 0, fun q => absurd q h⟩
  have pr : ∀ (k : Nat) (ty : FieldType), kty k = ty → Cond.arrayClass ty ∈ lw_tbl → (∀ c, s.vm.findClass ("[" ++ ty.toString) = some c → va_RA s c ty) → ∃ c : ClassId, ArrOfT s c (kty k) ∧ va_RA s c (kty k) := by
    intro k ty hk hm hra
    obtain ⟨c, kA, comp, e1, e2, e3⟩ := Cond.arrayClass_spec (hts _ hm)
    subst hk
    exact ⟨c, fun n z => ⟨fun k h => (by cases h), kA, e2, comp, e3⟩, hra c e1⟩
  have ob : ∀ (k : Nat) (C : String), kty k = .object C → Cond.arrayOver (.object C) ∈ lw_tbl → ∃ c : ClassId, ArrOfT s c (kty k) ∧ va_RA s c (kty k) := by
    intro k C hk hm
    obtain ⟨comp, c, kA, e1, e2, e3, e4, e5⟩ := Cond.arrayOver_spec (hts _ hm)
    rw [hk]
    exact ⟨c, fun n z => ⟨fun k h => (by cases h), kA, e3, comp, e4⟩, kA, comp, e3, e4, e1, e5⟩
  have h2 : ∀ k, ∃ c : ClassId, k < 8 → ArrOfT s c (kty k) ∧ va_RA s c (kty k) := by
    intro k
    by_cases h : k < 8
    · have h3 : ∃ c : ClassId, ArrOfT s c (kty k) ∧ va_RA s c (kty k) := by
        rcases (show k = 0 ∨ k = 1 ∨ k = 2 ∨ k = 3 ∨ k = 4 ∨ k = 5 ∨ k = 6 ∨ k = 7 by omega) with rfl | rfl | rfl | rfl | rfl | rfl | rfl | rfl
        · exact pr 0 .int rfl arrW_0 (fun c q => q)
        · exact pr 1 .long rfl arrW_1 (fun c q => q)
        · exact pr 2 .char rfl arrW_2 (fun c q => q)
        · exact pr 3 .boolean rfl arrW_3 (fun c q => q)
        · exact ob 4 _ rfl overW_4
        · exact ob 5 _ rfl overW_5
        · exact ob 6 _ rfl overW_6
        · exact ob 7 _ rfl overW_7
      obtain ⟨c, h3⟩ := h3
      exact ⟨c, fun _ => h3⟩
    · exact ⟨default, fun q => absurd q h⟩
  refine ⟨fun a => Classical.choose (h1 a), fun a => Classical.choose (Classical.choose_spec (h1 a)), fun k => Classical.choose (h2 k), fun k q hq => ?_, fun k q hq => ?_⟩
  · have hl : k < 13 := by
      have := (List.getElem?_eq_some_iff.mp hq).1
      rw [classes_len] at this
      exact this
    rw [classes_at hl] at hq
    cases hq
    exact Classical.choose_spec (Classical.choose_spec (h1 k)) hl
  · have hl : k < 8 := by
      have := (List.getElem?_eq_some_iff.mp hq).1
      simpa [tysA] using this
    rw [tysA_at hl] at hq
    cases hq
    exact Classical.choose_spec (h2 k) hl
/-- the law's run in the shadow: on the script xs it answers 1 within the room -/
def lawRuns (xs : List Int32) : Prop := ∃ (F d n : Nat) (σ' : SH) (kc ks : Nat), exec (some xs) false 13 4 tbLaw (runM F d) n 0 [] [(0, .ref sIdx)] [] = some (some (.int 1), σ', kc, ks) ∧ d ≤ 800 ∧ kc ≤ 300000 ∧ ks ≤ 3000000
