/-! ===== a call's own cells: cut out, numbered anew, put back ===== -/
theorem ix_get {j : Nat} : ∀ {I : List Nat}, j ∈ I → I[ixOf j I]? = some j
  | [], h => absurd h List.not_mem_nil
  | a :: l, h => by
    unfold ixOf
    by_cases e : a = j
    · rw [if_pos e]; simp [e]
    · rw [if_neg e]
      rcases List.mem_cons.mp h with q | q
      · exact absurd q.symm e
      · rw [List.getElem?_cons_succ]; exact ix_get q
theorem cutOk_spec {σ : SH} {as : List Value} {I : List Nat} (h : cutOk σ as I = true) : (∀ (i j a : Nat), I[i]? = some a → I[j]? = some a → i = j) ∧ (∀ v ∈ as, ∀ i ∈ refsV v, i ∈ I) ∧ (∀ i ∈ I, ∃ c, σ[i]? = some c ∧ ∀ j ∈ refsC c, j ∈ I) := by
  simp only [cutOk, Bool.and_eq_true] at h
  obtain ⟨h1, h2, h3⟩ := h
  refine ⟨va_nd_inj I h1, fun v hv i hi => ?_, fun i hi => ?_⟩
  · exact of_decide_eq_true (List.all_eq_true.mp (List.all_eq_true.mp h2 v hv) i hi)
  · have h4 := List.all_eq_true.mp h3 i hi
    cases hc : σ[i]? with
    | none => simp [hc] at h4
    | some c =>
      simp only [hc] at h4
      exact ⟨c, rfl, fun j hj => of_decide_eq_true (List.all_eq_true.mp h4 j hj)⟩
/-- the callee's addresses -/
def rhoC (ρ : Nat → Nat) (I : List Nat) : Nat → Nat := fun k => ρ (I.getD k sIdx)
theorem rho_ix {ρ : Nat → Nat} {I : List Nat} {j : Nat} (h : j ∈ I) : rhoC ρ I (ixOf j I) = ρ j := by
  unfold rhoC
  rw [List.getD_eq_getElem?_getD, ix_get h]
  rfl
theorem rho_at {ρ : Nat → Nat} {I : List Nat} {i k : Nat} (h : I[k]? = some i) : rhoC ρ I k = ρ i := by
  unfold rhoC
  rw [List.getD_eq_getElem?_getD, h]
  rfl
theorem rnV_cv {ρ : Nat → Nat} {I : List Nat} {v : Value} (h : ∀ i ∈ refsV v, i ∈ I) : cv (rhoC ρ I) (rnV I v) = cv ρ v := by
  cases v with
  | ref j =>
    show Value.ref (rhoC ρ I (ixOf j I)) = .ref (ρ j)
    rw [rho_ix (h j (by simp [refsV]))]
  | _ => rfl
theorem rnM_cv {ρ : Nat → Nat} {I : List Nat} {as : List Value} (h : ∀ v ∈ as, ∀ i ∈ refsV v, i ∈ I) : (as.map (rnV I)).map (cv (rhoC ρ I)) = as.map (cv ρ) := by
  rw [List.map_map]
  exact List.map_congr_left fun v hv => rnV_cv (h v hv)
theorem rnC_cv {dA : Nat → ClassId} {ρ : Nat → Nat} {I : List Nat} {c : SC} (h : ∀ i ∈ refsC c, i ∈ I) : cvC dA (rhoC ρ I) (rnC I c) = cvC dA ρ c := by
  match c, h with
  | .inl q, h =>
    show (Sum.inr (q.1, (q.2.map (rnV I)).map (cv (rhoC ρ I))) : va_E) = .inr (q.1, q.2.map (cv ρ))
    rw [rnM_cv fun v hv i hi => h i (List.mem_flatMap.mpr ⟨v, hv, hi⟩)]
  | .inr (k, .inl l), h => rfl
  | .inr (k, .inr (.inl l)), h => rfl
  | .inr (k, .inr (.inr l)), h =>
    have e : (fun j => ((l.map (Option.map (fun j => ixOf j I))).getD j none).map (rhoC ρ I)) = (fun j => (l.getD j none).map ρ) := by
      funext j
      rw [List.getD_eq_getElem?_getD, List.getD_eq_getElem?_getD, List.getElem?_map]
      cases hj : l[j]? with
      | none => rfl
      | some x =>
        cases x with
        | none => rfl
        | some i =>
          show some (rhoC ρ I (ixOf i I)) = some (ρ i)
          rw [rho_ix (h i (List.mem_filterMap.mpr ⟨some i, List.mem_of_getElem? hj, rfl⟩))]
    show (Sum.inl (dA k, (l.map (Option.map (fun j => ixOf j I))).length, .inr (.inr (.inr (.inr (fun j => ((l.map (Option.map (fun j => ixOf j I))).getD j none).map (rhoC ρ I)))))) : va_E) = .inl (dA k, l.length, .inr (.inr (.inr (.inr (fun j => (l.getD j none).map ρ)))))
    rw [e, List.length_map]
/-- a cell of the callee's is the caller's -/
theorem subw {dA : Nat → ClassId} {ρ : Nat → Nat} {σ : SH} {as : List Value} {I : List Nat} (hI : cutOk σ as I = true) {k : Nat} {x : Nat × va_E} (hx : (wld dA (rhoC ρ I) (subH σ I))[k]? = some x) : ∃ i, I[k]? = some i ∧ (wld dA ρ σ)[i]? = some x := by
  rw [wld_get] at hx
  unfold subH at hx
  rw [List.getElem?_map] at hx
  cases hi : I[k]? with
  | none => rw [hi] at hx; cases hx
  | some i =>
    rw [hi] at hx
    obtain ⟨c, hc, hcl⟩ := (cutOk_spec hI).2.2 i (List.mem_of_getElem? hi)
    refine ⟨i, rfl, ?_⟩
    rw [wld_at hc]
    simp only [Option.map_some, Option.some.injEq] at hx
    rw [← hx, rho_at hi]
    rw [List.getD_eq_getElem?_getD, hc]
    show some (ρ i, cvC dA ρ c) = some (ρ i, cvC dA (rhoC ρ I) (rnC I c))
    rw [rnC_cv hcl]
theorem sub_len (σ : SH) (I : List Nat) : (subH σ I).length = I.length := by simp [subH]
theorem sub_P {D : va_G} {dA : Nat → ClassId} {ρ : Nat → Nat} {σ : SH} {as : List Value} {I : List Nat} {H : Heap} (hI : cutOk σ as I = true) (hP : va_P D classes (wld dA ρ σ) H) : va_P D classes (wld dA (rhoC ρ I) (subH σ I)) H := by
  intro k q hk
  obtain ⟨i, -, h⟩ := subw hI hk
  exact hP i q h
theorem sub_D {dA : Nat → ClassId} {ρ : Nat → Nat} {σ : SH} {as : List Value} {I : List Nat} {A : Nat → Prop} (hI : cutOk σ as I = true) (hD : va_D A (wld dA ρ σ)) : va_D (fun _ => True) (wld dA (rhoC ρ I) (subH σ I)) := by
  refine ⟨fun i j p q hi hj hpq => ?_, fun _ _ _ => trivial⟩
  obtain ⟨i', h1, h2⟩ := subw hI hi
  obtain ⟨j', h3, h4⟩ := subw hI hj
  have e := hD.1 i' j' p q h2 h4 hpq
  subst e
  exact (cutOk_spec hI).1 i j i' h1 h3
theorem sub_A {dA : Nat → ClassId} {ρ : Nat → Nat} {σ : SH} {as : List Value} {I : List Nat} {sz : Nat} (hI : cutOk σ as I = true) : ∀ q, va_A (wld dA (rhoC ρ I) (subH σ I)) sz q → va_A (wld dA ρ σ) sz q := by
  intro q h
  rcases h with ⟨k, ev, h⟩ | h
  · obtain ⟨i, -, h1⟩ := subw hI h
    exact Or.inl ⟨i, ev, h1⟩
  · exact Or.inr h
/-- the caller's addresses behind the call -/
def rhoN (ρ u : Nat → Nat) (I : List Nat) (n N : Nat) : Nat → Nat := fun i => if n ≤ i ∧ i < n + (N - I.length) then u (i - n + I.length) else ρ i
theorem urN_rho {ρ u : Nat → Nat} {σ : SH} {as : List Value} {I : List Nat} {N : Nat} (hI : cutOk σ as I = true) (hu : agr I.length (rhoC ρ I) u) (hN : I.length ≤ N) {k : Nat} (hk : k < N) : rhoN ρ u I σ.length N (urN I σ.length k) = u k := by
  unfold urN
  by_cases h : k < I.length
  · rw [if_pos h]
    have hg : I[k]? = some I[k] := List.getElem?_eq_getElem h
    obtain ⟨c, hc, -⟩ := (cutOk_spec hI).2.2 I[k] (List.getElem_mem h)
    have hl := (List.getElem?_eq_some_iff.mp hc).1
    rw [List.getD_eq_getElem?_getD, hg]
    show rhoN ρ u I σ.length N I[k] = u k
    unfold rhoN
    rw [if_neg (by omega), hu k (Or.inl h), rho_at hg]
  · rw [if_neg h]
    unfold rhoN
    rw [if_pos (by omega)]
    congr 1
    omega
theorem urC_cv {dA : Nat → ClassId} {ρ u : Nat → Nat} {σ : SH} {as : List Value} {I : List Nat} {N : Nat} (hI : cutOk σ as I = true) (hu : agr I.length (rhoC ρ I) u) (hN : I.length ≤ N) {c : SC} (h : okC N c = true) : cvC dA (rhoN ρ u I σ.length N) (urC I σ.length c) = cvC dA u c := by
  match c, h with
  | .inl q, h =>
    show (Sum.inr (q.1, (q.2.map (urV I σ.length)).map (cv (rhoN ρ u I σ.length N))) : va_E) = .inr (q.1, q.2.map (cv u))
    rw [List.map_map]
    have e : q.2.map (cv (rhoN ρ u I σ.length N) ∘ urV I σ.length) = q.2.map (cv u) := List.map_congr_left fun v hv => by
      have h1 := List.all_eq_true.mp h v hv
      cases v with
      | ref k =>
        show Value.ref (rhoN ρ u I σ.length N (urN I σ.length k)) = .ref (u k)
        rw [urN_rho hI hu hN (of_decide_eq_true h1)]
      | _ => rfl
    rw [e]
  | .inr (k, .inl l), h => rfl
  | .inr (k, .inr (.inl l)), h => rfl
  | .inr (k, .inr (.inr l)), h =>
    have e : (fun j => ((l.map (Option.map (urN I σ.length))).getD j none).map (rhoN ρ u I σ.length N)) = (fun j => (l.getD j none).map u) := by
      funext j
      rw [List.getD_eq_getElem?_getD, List.getD_eq_getElem?_getD, List.getElem?_map]
      cases hj : l[j]? with
      | none => rfl
      | some x =>
        have h1 := List.all_eq_true.mp h x (List.mem_of_getElem? hj)
        cases x with
        | none => rfl
        | some i =>
          show some (rhoN ρ u I σ.length N (urN I σ.length i)) = some (u i)
          rw [urN_rho hI hu hN (of_decide_eq_true h1)]
    show (Sum.inl (dA k, (l.map (Option.map (urN I σ.length))).length, .inr (.inr (.inr (.inr (fun j => ((l.map (Option.map (urN I σ.length))).getD j none).map (rhoN ρ u I σ.length N)))))) : va_E) = .inl (dA k, l.length, .inr (.inr (.inr (.inr (fun j => (l.getD j none).map u)))))
    rw [e, List.length_map]
theorem rhoN_agr {ρ u : Nat → Nat} {I : List Nat} {n N : Nat} (h : N = I.length ∨ n + N < sIdx) : agr n ρ (rhoN ρ u I n N) := by
  intro i hi
  unfold rhoN
  rw [if_neg]
  rcases h with h | h <;> rcases hi with hi | hi <;> omega
/-- where a cell of the world behind the call comes from -/
theorem paste_src {dA : Nat → ClassId} {ρ u : Nat → Nat} {σ h1 : SH} {as : List Value} {I : List Nat} (hI : cutOk σ as I = true) (hu : agr I.length (rhoC ρ I) u) (hN : I.length ≤ h1.length) (hw : h1.length = I.length ∨ (σ.all (okC σ.length) = true ∧ σ.length + h1.length < sIdx)) (hok : h1.all (okC h1.length) = true) {i : Nat} {q : Nat × va_E}
    (hq : (wld dA (rhoN ρ u I σ.length h1.length) (paste σ I h1))[i]? = some q) : (i ∉ I ∧ (wld dA ρ σ)[i]? = some q) ∨ ∃ k, (wld dA u h1)[k]? = some q ∧ i = urN I σ.length k := by
  have hag : agr σ.length ρ (rhoN ρ u I σ.length h1.length) := rhoN_agr (hw.imp id (fun q => q.2))
  rw [wld_get] at hq
  by_cases hi : i < σ.length
  · have hpi : (paste σ I h1)[i]? = some (if i ∈ I then urC I σ.length (h1.getD (ixOf i I) σ[i]) else σ[i]) := by
      unfold paste
      rw [List.getElem?_append_left (by simp; exact hi), List.getElem?_mapIdx, List.getElem?_eq_getElem hi]
      rfl
    rw [hpi] at hq
    simp only [Option.map_some, Option.some.injEq] at hq
    by_cases hm : i ∈ I
    · right
      rw [if_pos hm] at hq
      have hk := ix_get hm
      have hkl : ixOf i I < I.length := (List.getElem?_eq_some_iff.mp hk).1
      have hk1 : h1[ixOf i I]? = some h1[ixOf i I] := List.getElem?_eq_getElem (by omega)
      rw [List.getD_eq_getElem?_getD, hk1] at hq
      simp only [Option.getD_some] at hq
      have hui : urN I σ.length (ixOf i I) = i := by
        unfold urN
        rw [if_pos hkl, List.getD_eq_getElem?_getD, hk]
        rfl
      refine ⟨ixOf i I, ?_, hui.symm⟩
      rw [wld_at hk1, ← hq, urC_cv hI hu hN (List.all_eq_true.mp hok _ (List.getElem_mem _))]
      have h3 := urN_rho hI hu hN (k := ixOf i I) (by omega)
      rw [hui] at h3
      rw [h3]
    · left
      rw [if_neg hm] at hq
      refine ⟨hm, ?_⟩
      rw [wld_at (List.getElem?_eq_getElem hi), ← hq, hag i (Or.inl hi)]
      rcases hw with hw | hw
      · have e : rhoN ρ u I σ.length h1.length = ρ := by
          funext j
          unfold rhoN
          rw [if_neg (by omega)]
        rw [e]
      · rw [cvC_agr hag (List.all_eq_true.mp hw.1 _ (List.getElem_mem hi))]
  · right
    have hpi : (paste σ I h1)[i]? = (h1[I.length + (i - σ.length)]?).map (urC I σ.length) := by
      unfold paste
      rw [List.getElem?_append_right (by simp; omega), List.getElem?_map, List.getElem?_drop]
      simp
    rw [hpi] at hq
    cases hc : h1[I.length + (i - σ.length)]? with
    | none => rw [hc] at hq; cases hq
    | some c =>
      rw [hc] at hq
      simp only [Option.map_some, Option.some.injEq] at hq
      have hl := (List.getElem?_eq_some_iff.mp hc).1
      have hui : urN I σ.length (I.length + (i - σ.length)) = i := by
        unfold urN
        rw [if_neg (by omega)]
        omega
      refine ⟨I.length + (i - σ.length), ?_, hui.symm⟩
      have h3 := urN_rho hI hu hN hl
      rw [hui] at h3
      rw [wld_at hc, ← hq, h3, urC_cv hI hu hN (List.all_eq_true.mp hok _ (List.mem_of_getElem? hc))]
/-- behind the call: the caller's other cells, and the callee's -/
theorem paste_ok {D : va_G} {dA : Nat → ClassId} {ρ u : Nat → Nat} {σ h1 : SH} {as : List Value} {I : List Nat} {A : Nat → Prop} {H H1 : Heap} (hI : cutOk σ as I = true) (hP : va_P D classes (wld dA ρ σ) H) (hD : va_D A (wld dA ρ σ)) (hfr : ∀ q, va_A (wld dA ρ σ) H.size q → A q) (hu : agr I.length (rhoC ρ I) u)
    (hN : I.length ≤ h1.length) (hw : h1.length = I.length ∨ (σ.all (okC σ.length) = true ∧ σ.length + h1.length < sIdx)) (hok : h1.all (okC h1.length) = true)
    (hP1 : va_P D classes (wld dA u h1) H1) (hD1 : va_D (va_A (wld dA (rhoC ρ I) (subH σ I)) H.size) (wld dA u h1)) (hk : ∀ q : Nat, q < H.size → ¬ va_A (wld dA (rhoC ρ I) (subH σ I)) H.size q → H1[q]? = H[q]?) :
    va_P D classes (wld dA (rhoN ρ u I σ.length h1.length) (paste σ I h1)) H1 ∧ va_D A (wld dA (rhoN ρ u I σ.length h1.length) (paste σ I h1)) := by
  have apart : ∀ (i : Nat) (q : Nat × va_E), i ∉ I → (wld dA ρ σ)[i]? = some q → q.1 < H.size ∧ ¬ va_A (wld dA (rhoC ρ I) (subH σ I)) H.size q.1 := by
    intro i q hi hq
    have hl := (hP i q hq).lt
    refine ⟨hl, fun h => ?_⟩
    rcases h with ⟨k, ev, h⟩ | h
    · obtain ⟨j, h2, h3⟩ := subw hI h
      have e := hD.1 i j q (q.1, ev) hq h3 rfl
      subst e
      exact hi (List.mem_of_getElem? h2)
    · omega
  refine ⟨fun i q hq => ?_, fun i j x y hi hj hxy => ?_, fun i q hq => ?_⟩
  · rcases paste_src hI hu hN hw hok hq with ⟨h2, h3⟩ | ⟨k, h2, h3⟩
    · obtain ⟨g1, g2⟩ := apart i q h2 h3
      exact (hP i q h3).kept (hk q.1 g1 g2)
    · exact hP1 k q h2
  · rcases paste_src hI hu hN hw hok hi with ⟨h2, h3⟩ | ⟨k, h2, h3⟩ <;> rcases paste_src hI hu hN hw hok hj with ⟨h4, h5⟩ | ⟨k', h4, h5⟩
    · exact hD.1 i j x y h3 h5 hxy
    · exact absurd (hxy ▸ hD1.2 k' y h4) (apart i x h2 h3).2
    · exact absurd (hxy ▸ hD1.2 k x h2) (apart j y h4 h5).2
    · rw [h3, h5, hD1.1 k k' x y h2 h4 hxy]
  · rcases paste_src hI hu hN hw hok hq with ⟨h2, h3⟩ | ⟨k, h2, h3⟩
    · exact hD.2 i q h3
    · exact hfr _ (sub_A hI _ (hD1.2 k q h2))
