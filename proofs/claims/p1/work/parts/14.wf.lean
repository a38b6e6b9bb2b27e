/-! ===== references stay within the heap; the heap grows by the cells that are counted ===== -/
def okSt (n : Nat) (st : List Value) : Prop := ∀ v ∈ st, okVs n v = true
def okLv (n : Nat) (lv : LV) : Prop := ∀ q ∈ lv, okVs n q.2 = true
def okH (σ : SH) : Prop := ∀ c ∈ σ, okC σ.length c = true
theorem okVs_le {n m : Nat} (h : n ≤ m) {v : Value} (hv : okVs n v = true) : okVs m v = true := by
  cases v with
  | ref i => simp only [okVs, decide_eq_true_eq] at hv ⊢; exact Nat.lt_of_lt_of_le hv h
  | _ => rfl
theorem okC_le {n m : Nat} (h : n ≤ m) {c : SC} (hc : okC n c = true) : okC m c = true := by
  match c, hc with
  | .inl q, hc => exact List.all_eq_true.mpr fun v hv => okVs_le h (List.all_eq_true.mp hc v hv)
  | .inr (k, .inl l), hc => rfl
  | .inr (k, .inr (.inl l)), hc => rfl
  | .inr (k, .inr (.inr l)), hc =>
    refine List.all_eq_true.mpr fun v hv => ?_
    have h1 := List.all_eq_true.mp hc v hv
    cases v with
    | none => rfl
    | some i => simp only [decide_eq_true_eq] at h1 ⊢; omega
theorem okSt_cons {n : Nat} {v : Value} {st : List Value} (h : okVs n v = true) (hs : okSt n st) : okSt n (v :: st) := fun x hx => (List.mem_cons.mp hx).elim (fun e => e ▸ h) (hs x)
theorem okSt_tl {n : Nat} {v : Value} {st : List Value} (h : okSt n (v :: st)) : okSt n st := fun x hx => h x (List.mem_cons_of_mem _ hx)
theorem okSt_hd {n : Nat} {v : Value} {st : List Value} (h : okSt n (v :: st)) : okVs n v = true := h v List.mem_cons_self
theorem okLv_get {n : Nat} {lv : LV} {k : Nat} {v : Value} (h : okLv n lv) (hg : lvGet lv k = some v) : okVs n v = true := h (k, v) (lvGet_mem hg)
theorem okLv_set1 {n : Nat} {lv : LV} {k : Nat} {v : Value} (h : okLv n lv) (hv : okVs n v = true) : okLv n (lvSet1 lv k v) := fun q hq => (List.mem_cons.mp hq).elim (fun e => e ▸ hv) (fun hq => h q (List.mem_filter.mp hq).1)
theorem okLv_set2 {n : Nat} {lv : LV} {k : Nat} {v : Value} (h : okLv n lv) (hv : okVs n v = true) : okLv n (lvSet2 lv k v) := fun q hq => (List.mem_cons.mp hq).elim (fun e => e ▸ hv) (fun hq => h q (List.mem_filter.mp hq).1)
section WF
variable {n : Nat} {i : Instr} {a b o nL pc : Nat} {st st' : List Value} {lv lv' : LV} {σ σ' : SH} {ini : Bool}
set_option maxHeartbeats 4000000 in
theorem stepA_ok (h : stepA i a st lv = some st') (hs : okSt n st) (hl : okLv n lv) : okSt n st' := by
  have no : ∀ {P : Prop}, (none : Option (List Value)) = some st' → P := fun h => by cases h
  have b2 : ∀ {f : Int32 → Int32 → Int32}, bi f st = some st' → okSt n st' := fun h => by obtain ⟨x, y, r, rfl, rfl⟩ := bi_inv h; exact okSt_cons rfl (okSt_tl (okSt_tl hs))
  have b3 : ∀ {f : Int32 → Int32 → Int32}, biN f st = some st' → okSt n st' := fun h => by obtain ⟨x, y, r, rfl, -, rfl⟩ := biN_inv h; exact okSt_cons rfl (okSt_tl (okSt_tl hs))
  have b4 : ∀ {f : Int64 → Int64 → Int64}, bl f st = some st' → okSt n st' := fun h => by obtain ⟨x, y, r, rfl, rfl⟩ := bl_inv h; exact okSt_cons rfl (okSt_tl (okSt_tl hs))
  have b5 : ∀ {f : Int64 → Int64 → Int64}, blN f st = some st' → okSt n st' := fun h => by obtain ⟨x, y, r, rfl, -, rfl⟩ := blN_inv h; exact okSt_cons rfl (okSt_tl (okSt_tl hs))
  have b6 : ∀ {f : Int32 → Int32}, ui f st = some st' → okSt n st' := fun h => by obtain ⟨x, r, rfl, rfl⟩ := ui_inv h; exact okSt_cons rfl (okSt_tl hs)
  have b7 : ∀ {k : Nat}, ldI lv k st = some st' → okSt n st' := fun h => by obtain ⟨x, hg, rfl⟩ := ldI_inv h; exact okSt_cons rfl hs
  have b8 : ∀ {k : Nat}, ldL lv k st = some st' → okSt n st' := fun h => by obtain ⟨x, hg, rfl⟩ := ldL_inv h; exact okSt_cons rfl hs
  have b9 : ∀ {k : Nat}, ldA lv k st = some st' → okSt n st' := fun h => by obtain ⟨x, hg, rfl⟩ := ldA_inv h; exact okSt_cons (okLv_get hl hg) hs
  cases i with
  | iconst _ => cases h; exact okSt_cons rfl hs
  | bipush _ => cases h; exact okSt_cons rfl hs
  | sipush _ => cases h; exact okSt_cons rfl hs
  | lconst _ => cases h; exact okSt_cons rfl hs
  | ldc _ => cases h; exact okSt_cons rfl hs
  | ldc_w _ => cases h; exact okSt_cons rfl hs
  | ldc2_w _ => cases h; exact okSt_cons rfl hs
  | iload _ => exact b7 h
  | iload_n _ => exact b7 h
  | lload _ => exact b8 h
  | lload_n _ => exact b8 h
  | aload _ => exact b9 h
  | aload_n _ => exact b9 h
  | iadd => exact b2 h
  | isub => exact b2 h
  | imul => exact b2 h
  | iand => exact b2 h
  | ior => exact b2 h
  | ixor => exact b2 h
  | ishl => exact b2 h
  | ishr => exact b2 h
  | iushr => exact b2 h
  | idiv => exact b3 h
  | irem => exact b3 h
  | ineg => exact b6 h
  | i2c => exact b6 h
  | ladd => exact b4 h
  | lsub => exact b4 h
  | lmul => exact b4 h
  | ldiv => exact b5 h
  | lneg =>
    simp only [stepA] at h
    split at h
    · cases h; exact okSt_cons rfl (okSt_tl hs)
    · cases h
  | i2l =>
    simp only [stepA] at h
    split at h
    · cases h; exact okSt_cons rfl (okSt_tl hs)
    · cases h
  | l2i =>
    simp only [stepA] at h
    split at h
    · cases h; exact okSt_cons rfl (okSt_tl hs)
    · cases h
  | lcmp =>
    simp only [stepA] at h
    split at h
    · cases h; exact okSt_cons rfl (okSt_tl (okSt_tl hs))
    · cases h
  | dup =>
    simp only [stepA] at h
    split at h
    · split at h
      · cases h; exact okSt_cons (okSt_hd hs) hs
      · cases h
    · cases h
  | dup2 =>
    simp only [stepA] at h
    split at h
    · split at h
      · cases h; exact okSt_cons (okSt_hd hs) (okSt_cons (okSt_hd (okSt_tl hs)) hs)
      · cases h
    · cases h
  | _ => exact no h
theorem stepB_ok (h : stepB i nL st lv = some (st', lv')) (hs : okSt n st) (hl : okLv n lv) : okSt n st' ∧ okLv n lv' := by
  have no : ∀ {P : Prop}, (none : Option (List Value × LV)) = some (st', lv') → P := fun h => by cases h
  have b1 : ∀ {k : Nat}, stI nL lv k st = some (st', lv') → okSt n st' ∧ okLv n lv' := fun h => by obtain ⟨x, rfl, -, rfl⟩ := stI_inv h; exact ⟨okSt_tl hs, okLv_set1 hl rfl⟩
  have b2 : ∀ {k : Nat}, stL nL lv k st = some (st', lv') → okSt n st' ∧ okLv n lv' := fun h => by obtain ⟨x, rfl, -, rfl⟩ := stL_inv h; exact ⟨okSt_tl hs, okLv_set2 hl rfl⟩
  have b3 : ∀ {k : Nat}, stA nL lv k st = some (st', lv') → okSt n st' ∧ okLv n lv' := fun h => by obtain ⟨x, rfl, -, rfl⟩ := stA_inv h; exact ⟨okSt_tl hs, okLv_set1 hl (okSt_hd hs)⟩
  cases i with
  | istore _ => exact b1 h
  | istore_n _ => exact b1 h
  | lstore _ => exact b2 h
  | lstore_n _ => exact b2 h
  | astore _ => exact b3 h
  | astore_n _ => exact b3 h
  | iinc k m =>
    simp only [stepB] at h
    split at h
    · split at h
      · cases h; exact ⟨hs, okLv_set1 hl rfl⟩
      · cases h
    · cases h
  | _ => exact no h
theorem stepC_ok {pc' : Nat} (h : stepC i pc st = some (pc', st')) (hs : okSt n st) : okSt n st' := by
  have no : ∀ {P : Prop}, (none : Option (Nat × List Value)) = some (pc', st') → P := fun h => by cases h
  cases i with
  | goto off => obtain ⟨-, rfl⟩ := jmp_inv h; exact hs
  | ifCond cd off =>
    simp only [stepC] at h
    split at h
    · obtain ⟨t, -, -, rfl⟩ := jIf_inv h; exact okSt_tl hs
    · cases h
  | if_icmp cd off =>
    simp only [stepC] at h
    split at h
    · obtain ⟨t, -, -, rfl⟩ := jIf_inv h; exact okSt_tl (okSt_tl hs)
    · cases h
  | ifnull off =>
    simp only [stepC] at h
    split at h
    · cases h; exact okSt_tl hs
    · obtain ⟨-, rfl⟩ := jmp_inv h; exact okSt_tl hs
    · cases h
  | ifnonnull off =>
    simp only [stepC] at h
    split at h
    · obtain ⟨-, rfl⟩ := jmp_inv h; exact okSt_tl hs
    · cases h; exact okSt_tl hs
    · cases h
  | tableswitch d lo hi offs =>
    simp only [stepC] at h
    split at h
    · split at h
      · obtain ⟨-, rfl⟩ := jmp_inv h; exact okSt_tl hs
      · split at h
        · obtain ⟨-, rfl⟩ := jmp_inv h; exact okSt_tl hs
        · cases h
    · cases h
  | lookupswitch d ps =>
    simp only [stepC] at h
    split at h
    · split at h
      · obtain ⟨-, rfl⟩ := jmp_inv h; exact okSt_tl hs
      · cases h
    · cases h
  | _ => exact no h
theorem okH_at {q : Nat} {c : SC} (h : okH σ) (hq : σ[q]? = some c) : okC σ.length c = true := h c (List.mem_of_getElem? hq)
theorem stepD_ok (h : stepD none i a b st σ = some st') (hs : okSt σ.length st) (hh : okH σ) : okSt σ.length st' := by
  have no : ∀ {P : Prop}, (none : Option (List Value)) = some st' → P := fun h => by cases h
  have b1 : ∀ {κ : Nat}, aI κ st σ = some st' → okSt σ.length st' := fun h => by obtain ⟨j, q, r, li, rfl, -, -, rfl⟩ := aI_inv h; exact okSt_cons rfl (okSt_tl (okSt_tl hs))
  cases i with
  | getfield ix =>
    simp only [stepD] at h
    split at h
    case h_1 q r =>
      split at h
      case h_1 ci fs hq =>
        split at h
        · cases hv : fs[b]? with
          | none => rw [hv] at h; cases h
          | some v =>
            rw [hv] at h
            cases h
            exact okSt_cons (List.all_eq_true.mp (okH_at hh hq) v (List.mem_of_getElem? hv)) (okSt_tl hs)
        · cases h
      · cases h
    · cases h
  | iaload => exact b1 h
  | caload => exact b1 h
  | baload => exact b1 h
  | laload =>
    simp only [stepD] at h
    split at h
    · split at h
      · split at h
        · cases h; exact okSt_cons rfl (okSt_tl (okSt_tl hs))
        · cases h
      · cases h
    · cases h
  | aaload =>
    simp only [stepD] at h
    split at h
    case h_1 j q r =>
      split at h
      case h_1 k li hq =>
        split at h
        case isTrue e =>
          cases h
          refine okSt_cons ?_ (okSt_tl (okSt_tl hs))
          have hc := okH_at hh hq
          rw [List.getD_eq_getElem?_getD]
          cases hj : li[j.toNatClampNeg]? with
          | none => rfl
          | some x =>
            have h1 := List.all_eq_true.mp hc x (List.mem_of_getElem? hj)
            cases x with
            | none => rfl
            | some i => exact h1
        · cases h
      · cases h
    · cases h
  | arraylength =>
    simp only [stepD] at h
    split at h
    · split at h
      · split at h
        · cases h; exact okSt_cons rfl (okSt_tl hs)
        · cases h
      · split at h
        · cases h; exact okSt_cons rfl (okSt_tl hs)
        · cases h
      · cases h
    · cases h
  | _ => exact no h
theorem okH_set {q : Nat} {c : SC} (hh : okH σ) (hc : okC σ.length c = true) : okH (σ.set q c) := by
  intro x hx
  rw [List.length_set]
  rcases List.mem_or_eq_of_mem_set hx with h | h
  · exact hh x h
  · rw [h]; exact hc
theorem sI_ok {κ : Nat} {ty : FieldType} (h : sI κ ty st σ = some (st', σ')) (hs : okSt σ.length st) (hh : okH σ) : okSt σ.length st' ∧ okH σ' ∧ σ'.length = σ.length := by
  obtain ⟨x, j, q, li, rfl, hq, -, rfl⟩ := sI_inv h
  exact ⟨okSt_tl (okSt_tl (okSt_tl hs)), okH_set hh rfl, List.length_set⟩
set_option maxHeartbeats 4000000 in
theorem stepE_ok (h : stepE ini o i a b st σ = some (st', σ')) (hs : okSt σ.length st) (hh : okH σ) : okSt σ.length st' ∧ okH σ' ∧ σ'.length = σ.length := by
  have no : ∀ {P : Prop}, (none : Option (List Value × SH)) = some (st', σ') → P := fun h => by cases h
  cases i with
  | putfield ix =>
    simp only [stepE] at h
    split at h
    case h_1 v q r =>
      split at h
      case h_1 ci fs hq =>
        split at h
        · cases h
          refine ⟨okSt_tl (okSt_tl hs), okH_set hh ?_, List.length_set⟩
          refine List.all_eq_true.mpr fun x hx => ?_
          rcases List.mem_or_eq_of_mem_set hx with h | h
          · exact List.all_eq_true.mp (okH_at hh hq) x h
          · rw [h]; exact okSt_hd hs
        · cases h
      · cases h
    · cases h
  | iastore => exact sI_ok h hs hh
  | castore => exact sI_ok h hs hh
  | bastore => exact sI_ok h hs hh
  | lastore =>
    simp only [stepE] at h
    split at h
    · split at h
      · split at h
        · cases h; exact ⟨okSt_tl (okSt_tl (okSt_tl hs)), okH_set hh rfl, List.length_set⟩
        · cases h
      · cases h
    · cases h
  | aastore =>
    simp only [stepE] at h
    split at h
    case h_1 v j q r =>
      split at h
      case h_1 k li ci fs hq hv =>
        split at h
        · cases h
          refine ⟨okSt_tl (okSt_tl (okSt_tl hs)), okH_set hh ?_, List.length_set⟩
          refine List.all_eq_true.mpr fun x hx => ?_
          rcases List.mem_or_eq_of_mem_set hx with h | h
          · exact List.all_eq_true.mp (okH_at hh hq) x h
          · rw [h]; exact decide_eq_true (List.getElem?_eq_some_iff.mp hv).1
        · cases h
      · cases h
    · cases h
  | invokestatic ix =>
    simp only [stepE] at h
    split at h
    · split at h
      · split at h
        · cases h; exact ⟨okSt_tl (okSt_tl (okSt_tl (okSt_tl (okSt_tl hs)))), okH_set hh rfl, List.length_set⟩
        · cases h
      · cases h
    · cases h
  | _ => exact no h
theorem okH_app {c : SC} (hh : okH σ) (hc : okC (σ.length + 1) c = true) : okH (σ ++ [c]) := by
  intro x hx
  rw [List.length_append]
  rcases List.mem_append.mp hx with h | h
  · exact okC_le (Nat.le_add_right _ _) (hh x h)
  · rw [List.mem_singleton.mp h]; exact hc
theorem okSt_le {m : Nat} (h : n ≤ m) (hs : okSt n st) : okSt m st := fun v hv => okVs_le h (hs v hv)
theorem okLv_le {m : Nat} (h : n ≤ m) (hs : okLv n lv) : okLv m lv := fun v hv => okVs_le h (hs v hv)
theorem blank_ok (m a : Nat) : okC m (.inl (a, blankF a)) = true := by
  refine List.all_eq_true.mpr fun v hv => ?_
  obtain ⟨k, -, rfl⟩ := List.mem_map.mp hv
  cases clY a k <;> rfl
theorem rep_ok (m k N : Nat) : okC m (.inr (k, .inr (.inr (List.replicate N none)))) = true := by
  refine List.all_eq_true.mpr fun v hv => ?_
  rw [(List.mem_replicate.mp hv).2]
set_option maxHeartbeats 4000000 in
theorem stepF_ok {kc ks : Nat} (h : stepF i a st lv σ = some (st', σ', kc, ks)) (hs : okSt σ.length st) (hh : okH σ) : okSt σ'.length st' ∧ okH σ' ∧ σ'.length = σ.length + kc := by
  have no : ∀ {P : Prop}, (none : Option (List Value × SH × Nat × Nat)) = some (st', σ', kc, ks) → P := fun h => by cases h
  have hr : ∀ {r : List Value} {c : SC}, okSt σ.length r → okSt (σ ++ [c]).length (.ref σ.length :: r) := fun h => okSt_cons (by simp [okVs]) (okSt_le (by simp) h)
  cases i with
  | new ix =>
    simp only [stepF] at h
    split at h
    · cases h; exact ⟨hr hs, okH_app hh (blank_ok _ _), by simp⟩
    · cases h
  | newarray ty =>
    simp only [stepF] at h
    split at h
    · split at h
      · split at h
        · cases h; exact ⟨hr (okSt_tl hs), okH_app hh rfl, by simp⟩
        · cases h; exact ⟨hr (okSt_tl hs), okH_app hh rfl, by simp⟩
        · cases h; exact ⟨hr (okSt_tl hs), okH_app hh rfl, by simp⟩
        · cases h; exact ⟨hr (okSt_tl hs), okH_app hh rfl, by simp⟩
        · cases h
      · cases h
    · cases h
  | anewarray ix =>
    simp only [stepF] at h
    split at h
    · split at h
      · cases h; exact ⟨hr (okSt_tl hs), okH_app hh (rep_ok _ _ _), by simp⟩
      · cases h
    · cases h
  | invokespecial ix =>
    simp only [stepF] at h
    split at h
    · split at h
      · cases h; exact ⟨okSt_tl hs, hh, rfl⟩
      · cases h
    · cases h
  | _ => exact no h
theorem ix_lt {j : Nat} {I : List Nat} (h : j ∈ I) : ixOf j I < I.length := (List.getElem?_eq_some_iff.mp (ix_get h)).1
theorem rnV_ok {I : List Nat} {v : Value} (h : ∀ i ∈ refsV v, i ∈ I) : okVs I.length (rnV I v) = true := by
  cases v with
  | ref j => exact decide_eq_true (ix_lt (h j (by simp [refsV])))
  | _ => rfl
theorem rnC_ok {I : List Nat} {c : SC} (h : ∀ i ∈ refsC c, i ∈ I) : okC I.length (rnC I c) = true := by
  match c, h with
  | .inl q, h =>
    refine List.all_eq_true.mpr fun v hv => ?_
    obtain ⟨x, hx, rfl⟩ := List.mem_map.mp hv
    exact rnV_ok fun i hi => h i (List.mem_flatMap.mpr ⟨x, hx, hi⟩)
  | .inr (k, .inl l), h => rfl
  | .inr (k, .inr (.inl l)), h => rfl
  | .inr (k, .inr (.inr l)), h =>
    refine List.all_eq_true.mpr fun v hv => ?_
    obtain ⟨x, hx, rfl⟩ := List.mem_map.mp hv
    cases x with
    | none => rfl
    | some i => exact decide_eq_true (ix_lt (h i (List.mem_filterMap.mpr ⟨some i, hx, rfl⟩)))
theorem sub_ok {as : List Value} {I : List Nat} (hI : cutOk σ as I = true) : okH (subH σ I) ∧ okSt (subH σ I).length (as.map (rnV I)) := by
  obtain ⟨-, h2, h3⟩ := cutOk_spec hI
  rw [sub_len]
  refine ⟨fun c hc => ?_, fun v hv => ?_⟩
  · rw [sub_len]
    unfold subH at hc
    obtain ⟨i, hi, rfl⟩ := List.mem_map.mp hc
    obtain ⟨c, hc, hcl⟩ := h3 i hi
    rw [List.getD_eq_getElem?_getD, hc]
    exact rnC_ok hcl
  · obtain ⟨x, hx, rfl⟩ := List.mem_map.mp hv
    exact rnV_ok (h2 x hx)
theorem urN_lt {I : List Nat} {as : List Value} {N k : Nat} (hI : cutOk σ as I = true) (hN : I.length ≤ N) (hk : k < N) : urN I σ.length k < σ.length + (N - I.length) := by
  unfold urN
  by_cases h : k < I.length
  · rw [if_pos h, List.getD_eq_getElem?_getD, List.getElem?_eq_getElem h]
    obtain ⟨c, hc, -⟩ := (cutOk_spec hI).2.2 I[k] (List.getElem_mem h)
    have := (List.getElem?_eq_some_iff.mp hc).1
    show I[k] < _
    omega
  · rw [if_neg h]; omega
theorem urC_ok {I : List Nat} {as : List Value} {N : Nat} {c : SC} (hI : cutOk σ as I = true) (hN : I.length ≤ N) (hc : okC N c = true) : okC (σ.length + (N - I.length)) (urC I σ.length c) = true := by
  match c, hc with
  | .inl q, hc =>
    refine List.all_eq_true.mpr fun v hv => ?_
    obtain ⟨x, hx, rfl⟩ := List.mem_map.mp hv
    have h1 := List.all_eq_true.mp hc x hx
    cases x with
    | ref k => exact decide_eq_true (urN_lt hI hN (of_decide_eq_true h1))
    | _ => rfl
  | .inr (k, .inl l), hc => rfl
  | .inr (k, .inr (.inl l)), hc => rfl
  | .inr (k, .inr (.inr l)), hc =>
    refine List.all_eq_true.mpr fun v hv => ?_
    obtain ⟨x, hx, rfl⟩ := List.mem_map.mp hv
    have h1 := List.all_eq_true.mp hc x hx
    cases x with
    | none => rfl
    | some k => exact decide_eq_true (urN_lt hI hN (of_decide_eq_true h1))
theorem paste_len (I : List Nat) (h1 : SH) : (paste σ I h1).length = σ.length + (h1.length - I.length) := by simp [paste]
theorem paste_okH {as : List Value} {I : List Nat} {h1 : SH} (hh : okH σ) (hI : cutOk σ as I = true) (hN : I.length ≤ h1.length) (h1ok : okH h1) : okH (paste σ I h1) := by
  intro c hc
  rw [paste_len]
  unfold paste at hc
  rcases List.mem_append.mp hc with hc | hc
  · obtain ⟨i, hi, hc⟩ := List.mem_mapIdx.mp hc
    rw [← hc]
    by_cases hm : i ∈ I
    · rw [if_pos hm]
      have hl := ix_lt hm
      rw [List.getD_eq_getElem?_getD, List.getElem?_eq_getElem (show ixOf i I < h1.length by omega)]
      exact urC_ok hI hN (h1ok _ (List.getElem_mem _))
    · rw [if_neg hm]
      exact okC_le (Nat.le_add_right _ _) (hh _ (List.getElem_mem hi))
  · obtain ⟨x, hx, rfl⟩ := List.mem_map.mp hc
    exact urC_ok hI hN (h1ok x (List.mem_of_mem_drop hx))
/-- what a call must keep -/
def CallWf (call : Nat → List Value → SH → Option Res) : Prop := ∀ (a : Nat) (as : List Value) (σ : SH) (r : Option Value) (σ' : SH) (c s : Nat), call a as σ = some (r, σ', c, s) → okH σ → okSt σ.length as → okH σ' ∧ σ'.length = σ.length + c ∧ ∀ x, r = some x → okVs 0 x = true
set_option maxHeartbeats 4000000 in
theorem exec_wf {tb : List (List (Option XE))} {call : Nat → List Value → SH → Option Res} (hcall : CallWf call) : ∀ (n pc : Nat) (st : List Value) (lv : LV) (σ : SH) (r : Option Value) (σ' : SH) (kc ks : Nat), exec none ini o nL tb call n pc st lv σ = some (r, σ', kc, ks) → okH σ → okSt σ.length st → okLv σ.length lv → okH σ' ∧ σ'.length = σ.length + kc ∧ ∀ x, r = some x → okVs 0 x = true := by
  intro n
  induction n with
  | zero => intro pc st lv σ r σ' kc ks h; cases h
  | succ n ih =>
    intro pc st lv σ r σ' kc ks h hh hs hl
    cases hg : tbGet tb pc with
    | none => simp only [exec, hg] at h; cases h
    | some en =>
      obtain ⟨i, len, g, a, b, w⟩ := en
      simp only [exec, hg] at h
      split at h
      · cases h1 : stepA i a st lv with
        | none => simp only [h1] at h; cases h
        | some st' => simp only [h1] at h; exact ih _ _ _ _ _ _ _ _ h hh (stepA_ok h1 hs hl) hl
      · cases h1 : stepB i nL st lv with
        | none => simp only [h1] at h; cases h
        | some q => obtain ⟨st', lv'⟩ := q; simp only [h1] at h; exact ih _ _ _ _ _ _ _ _ h hh (stepB_ok h1 hs hl).1 (stepB_ok h1 hs hl).2
      · cases h1 : stepC i pc st with
        | none => simp only [h1] at h; cases h
        | some q => obtain ⟨pc', st'⟩ := q; simp only [h1] at h; exact ih _ _ _ _ _ _ _ _ h hh (stepC_ok h1 hs) hl
      · cases h1 : stepD none i a b st σ with
        | none => simp only [h1] at h; cases h
        | some st' => simp only [h1] at h; exact ih _ _ _ _ _ _ _ _ h hh (stepD_ok h1 hs hh) hl
      · cases h1 : stepE ini o i a b st σ with
        | none => simp only [h1] at h; cases h
        | some q =>
          obtain ⟨st', σ1⟩ := q
          simp only [h1] at h
          obtain ⟨e1, e2, e3⟩ := stepE_ok h1 hs hh
          rw [← e3]
          exact ih _ _ _ _ _ _ _ _ h e2 (by rw [e3]; exact e1) (by rw [e3]; exact hl)
      · cases h1 : stepF i a st lv σ with
        | none => simp only [h1] at h; cases h
        | some q =>
          obtain ⟨st', σ1, k1, k2⟩ := q
          simp only [h1] at h
          obtain ⟨e1, e2, e3⟩ := stepF_ok h1 hs hh
          cases he : exec none ini o nL tb call n (pc + len) st' lv σ1 with
          | none => simp only [he] at h; cases h
          | some q =>
            obtain ⟨r2, σ2, c2, s2⟩ := q
            simp only [he, Option.some.injEq, Prod.mk.injEq] at h
            obtain ⟨rfl, rfl, rfl, rfl⟩ := h
            obtain ⟨f1, f2, f3⟩ := ih _ _ _ _ _ _ _ _ he e2 e1 (okLv_le (by omega) hl)
            exact ⟨f1, by omega, f3⟩
      · cases h1 : stepR i st with
        | none => simp only [h1] at h; cases h
        | some r1 =>
          simp only [h1, Option.some.injEq, Prod.mk.injEq] at h
          obtain ⟨rfl, rfl, rfl, rfl⟩ := h
          refine ⟨hh, rfl, fun x hx => ?_⟩
          subst hx
          have no : ∀ {P : Prop}, (none : Option (Option Value)) = some (some x) → P := fun h => by cases h
          cases i with
          | ireturn =>
            simp only [stepR] at h1
            split at h1
            · cases h1; rfl
            · cases h1
          | lreturn =>
            simp only [stepR] at h1
            split at h1
            · cases h1; rfl
            · cases h1
          | return_ =>
            simp only [stepR] at h1
            split at h1
            · cases h1
            · cases h1
          | _ => exact no h1
      · split at h
        case isTrue hci =>
          cases hc1 : callIn a b st lv σ with
          | none => simp only [hc1] at h; cases h
          | some q =>
            obtain ⟨as, rest⟩ := q
            simp only [hc1] at h
            obtain ⟨me, hme, hbl, hsum, hok1, hok2, hcls, hlen, hst⟩ := callIn_spec hc1
            cases hr1 : locCall call a as σ with
            | none => simp only [hr1] at h; cases h
            | some q =>
              obtain ⟨r1, σ1, c1, s1⟩ := q
              simp only [hr1] at h
              obtain ⟨I, h1, hI, hcl, hN, hw9, hok9, rfl⟩ := locCall_spec hr1
              obtain ⟨g1, g2, g3⟩ := hcall _ _ _ _ _ _ _ hcl (sub_ok hI).1 (sub_ok hI).2
              rw [sub_len] at g2
              cases he : exec none ini o nL tb call n (pc + 3) (r1.toList ++ rest) lv (paste σ I h1) with
              | none => simp only [he] at h; cases h
              | some q =>
                obtain ⟨r2, σ2, c2, s2⟩ := q
                simp only [he, Option.some.injEq, Prod.mk.injEq] at h
                obtain ⟨rfl, rfl, rfl, rfl⟩ := h
                have hpl := paste_len (σ := σ) I h1
                have hrest : okSt (paste σ I h1).length (r1.toList ++ rest) := by
                  intro v hv
                  rcases List.mem_append.mp hv with hv | hv
                  · cases r1 with
                    | none => cases hv
                    | some x => rw [List.mem_singleton.mp hv]; exact okVs_le (Nat.zero_le _) (g3 x rfl)
                  · exact okVs_le (by omega) (hs v (by rw [hst]; exact List.mem_append_right _ hv))
                obtain ⟨f1, f2, f3⟩ := ih _ _ _ _ _ _ _ _ he (paste_okH hh hI hN g1) hrest (okLv_le (by omega) hl)
                exact ⟨f1, by omega, f3⟩
        · cases h
      · cases h
end WF
theorem okLv_args {n : Nat} {as : List Value} (h : okSt n as) : ∀ i, okLv n (lv_args i as) := by
  induction as with
  | nil => intro i q hq; cases hq
  | cons v vs ih =>
    intro i q hq
    rcases List.mem_cons.mp hq with e | hq
    · rw [e]; exact okSt_hd h
    · exact ih (okSt_tl h) _ q hq
theorem runM_wf (F : Nat) : ∀ d, CallWf (runM F d) := by
  intro d
  induction d with
  | zero => intro a as σ r σ' c s h; cases h
  | succ d ih =>
    intro a as σ r σ' c s h hh hs
    cases hme : meths[a]? with
    | none => simp only [runM, hme] at h; cases h
    | some me =>
      simp only [runM, hme] at h
      by_cases hlen : (lg_sl as).length ≤ mMl me ∧ as.length = (if mKd me = 2 then mNa me else mNa me + 1)
      · rw [if_pos hlen] at h
        cases he : exec none (mKd me == 1) (mOw me) (mMl me) (mTb me) (runM F d) F 0 [] (lv_args 0 as) σ with
        | none => simp only [he] at h; cases h
        | some q =>
          obtain ⟨r2, σ2, c2, s2⟩ := q
          simp only [he] at h
          split at h
          · simp only [Option.some.injEq, Prod.mk.injEq] at h
            obtain ⟨rfl, rfl, rfl, rfl⟩ := h
            exact exec_wf ih _ _ _ _ _ _ _ _ _ he hh (fun v hv => by cases hv) (okLv_args hs 0)
          · cases h
      · rw [if_neg hlen] at h; cases h
theorem Rn.wf {d a : Nat} {as : List Value} {σ σ' : SH} {r : Option Value} {c s : Nat} (h : Rn d a as σ (r, σ', c, s)) (hh : okH σ) (hs : okSt σ.length as) : okH σ' ∧ σ'.length = σ.length + c ∧ ∀ x, r = some x → okVs 0 x = true := by
  obtain ⟨F, h⟩ := h
  exact runM_wf F d a as σ r σ' c s h hh hs
/-- a call whose heap behind isn't told -/
theorem Ex.callW {scr : Option (List Int32)} {ini : Bool} {o nL : Nat} {tb : List (List (Option XE))} {d pc len a b w ca cb c1 s1 : Nat} {i : Instr} {st as as' rest : List Value} {lv : LV} {σ h h1 : SH} {I : List Nat} {r : Option Value} {R : Res} (hg : tbGet tb pc = some (i, len, 7, a, b, w)) (hi : isCall i = true) (hc : callIn a b st lv σ = some (as, rest)) (hI : cutI σ as = I) (has : as.map (rnV I) = as') (hh : subH σ I = h) (hok : cutOk σ as I = true) (hsok : okH σ) (hsz : σ.length + I.length + c1 < sIdx)
    (hr : Rn d a as' h (r, h1, c1, s1)) (hk : okH h1 → h1.length = I.length + c1 → okH (paste σ I h1) → (∀ x, r = some x → okVs 0 x = true) → Ex scr ini o nL tb d (pc + 3, r.toList ++ rest, lv, paste σ I h1, ca + c1, cb + s1) R) : Ex scr ini o nL tb d (pc, st, lv, σ, ca, cb) R := by
  subst has; subst hh
  obtain ⟨g1, g2, g3⟩ := hr.wf (sub_ok hok).1 (sub_ok hok).2
  rw [sub_len] at g2
  exact Ex.call hg hi hc hI hok hr ⟨by omega, Or.inr ⟨List.all_eq_true.mpr hsok, by omega⟩, List.all_eq_true.mpr g1⟩ (hk g1 g2 (paste_okH hsok hok (by omega) g1) g3)
