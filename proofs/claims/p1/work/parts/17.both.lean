/-! ===== both answer alike: how it is put together ===== -/
theorem mkI {mx mm : Nat} {as : List Value} {x : Int32} {h1 h2 : SH} {c1 s1 c2 s2 : Nat} (r1 : Rn 12 mx (.ref 0 :: as) hX (some (.int x), h1, c1, s1)) (r2 : Rn 12 mm (.ref 0 :: as) hM (some (.int x), h2, c2, s2)) (b : c1 ≤ 1000 ∧ s1 ≤ 100000 ∧ c2 ≤ 1000 ∧ s2 ≤ 100000) : BothI mx mm as := ⟨x, h1, h2, c1, s1, c2, s2, r1, r2, b⟩
theorem mkL {mx mm : Nat} {as : List Value} {x : Int64} {h1 h2 : SH} {c1 s1 c2 s2 : Nat} (r1 : Rn 12 mx (.ref 0 :: as) hX (some (.long x), h1, c1, s1)) (r2 : Rn 12 mm (.ref 0 :: as) hM (some (.long x), h2, c2, s2)) (b : c1 ≤ 1000 ∧ s1 ≤ 100000 ∧ c2 ≤ 1000 ∧ s2 ≤ 100000) : BothL mx mm as := ⟨x, h1, h2, c1, s1, c2, s2, r1, r2, b⟩
/-- a run of which all is known -/
theorem closed {F mi : Nat} {as : List Value} {σ : SH} {v : Value} {c s : Nat} (h : (runM F 12 mi as σ).map (fun q => (q.1, q.2.2.1, q.2.2.2)) = some (some v, c, s)) : ∃ h1, Rn 12 mi as σ (some v, h1, c, s) := by
  cases hr : runM F 12 mi as σ with
  | none => rw [hr] at h; cases h
  | some q =>
    obtain ⟨r, h1, c', s'⟩ := q
    rw [hr] at h
    simp only [Option.map_some, Option.some.injEq, Prod.mk.injEq] at h
    obtain ⟨rfl, rfl, rfl⟩ := h
    exact ⟨h1, F, hr⟩
section ENUM
theorem en_of {x : Int32} {k : Nat} (hk : k < 2 ^ 31) (h : x.toInt = k) : x = nI k := Int32.toInt_inj.mp (by rw [h, nI_toInt hk])
theorem lt_i {x y : Int32} : x < y ↔ x.toInt < y.toInt := Int32.lt_iff_toInt_lt
theorem en_b {x : Int32} {n : Nat} (hn : n < 2 ^ 31) (h1 : ¬ x < 0) (h2 : ¬ nI n < x) : ∃ k, k ≤ n ∧ x = nI k := by
  rw [lt_i] at h1 h2
  rw [nI_toInt hn] at h2
  have h0 : (0 : Int32).toInt = 0 := rfl
  rw [h0] at h1
  refine ⟨x.toInt.toNat, by omega, en_of (by omega) (by omega)⟩
theorem lo_of {x c : Int32} (h : ¬ x < c) (hc : 0 ≤ c.toInt) : ¬ x < 0 := by
  rw [lt_i] at h ⊢
  have h0 : (0 : Int32).toInt = 0 := rfl
  omega
end ENUM
section TS
variable {scr : Option (List Int32)} {ini : Bool} {o nL : Nat} {tb : List (List (Option XE))} {d pc ca cb : Nat} {lv : LV} {σ : SH} {R : Res}
theorem Ex.tsLo {dd lo hi : Int} {offs : Array Int} {len a b w pc' : Nat} {x nlo : Int32} {rest st' : List Value} (hg : tbGet tb pc = some (.tableswitch dd lo hi offs, len, 2, a, b, w)) (h : x < nlo) (hlo : nlo.toInt = lo) (ht : (jmp pc dd).map (fun t => (t, rest)) = some (pc', st')) (hk : Ex scr ini o nL tb d (pc', st', lv, σ, ca, cb) R) : Ex scr ini o nL tb d (pc, .int x :: rest, lv, σ, ca, cb) R := by
  refine Ex.step (S' := (pc', st', lv, σ, ca, cb)) ?_ hk
  have h1 : x.toInt < lo ∨ hi < x.toInt := Or.inl (by rw [← hlo]; exact lt_i.mp h)
  simp only [nxt, hg, stepC, if_pos h1, ht, Option.map_some]
theorem Ex.tsHi {dd lo hi : Int} {offs : Array Int} {len a b w pc' : Nat} {x nhi : Int32} {rest st' : List Value} (hg : tbGet tb pc = some (.tableswitch dd lo hi offs, len, 2, a, b, w)) (h : nhi < x) (hhi : nhi.toInt = hi) (ht : (jmp pc dd).map (fun t => (t, rest)) = some (pc', st')) (hk : Ex scr ini o nL tb d (pc', st', lv, σ, ca, cb) R) : Ex scr ini o nL tb d (pc, .int x :: rest, lv, σ, ca, cb) R := by
  refine Ex.step (S' := (pc', st', lv, σ, ca, cb)) ?_ hk
  have h1 : x.toInt < lo ∨ hi < x.toInt := Or.inr (by rw [← hhi]; exact lt_i.mp h)
  simp only [nxt, hg, stepC, if_pos h1, ht, Option.map_some]
end TS
/-! cheaper calls -/
def setsL : SH → List Nat → SH → SH
  | σ, i :: I, c :: cs => setsL (σ.set i c) I cs
  | σ, _, _ => σ
theorem setsL_len : ∀ (I : List Nat) (cs σ : SH), (setsL σ I cs).length = σ.length
  | [], _, _ => by simp [setsL]
  | _ :: _, [], _ => by simp [setsL]
  | i :: I, c :: cs, σ => by
    unfold setsL
    rw [setsL_len I cs (σ.set i c), List.length_set]
theorem setsL_out : ∀ (I : List Nat) (cs σ : SH) (j : Nat), j ∉ I → (setsL σ I cs)[j]? = σ[j]?
  | [], _, _, _, _ => by simp [setsL]
  | _ :: _, [], _, _, _ => by simp [setsL]
  | i :: I, c :: cs, σ, j, h => by
    unfold setsL
    rw [setsL_out I cs (σ.set i c) j (fun q => h (List.mem_cons_of_mem _ q)), List.getElem?_set_ne (fun (q : i = j) => h (List.mem_cons.mpr (Or.inl q.symm)))]
theorem setsL_in : ∀ (I : List Nat) (cs σ : SH) (k j : Nat), (∀ (a b x : Nat), I[a]? = some x → I[b]? = some x → a = b) → I.length = cs.length → I[k]? = some j → j < σ.length → (setsL σ I cs)[j]? = cs[k]?
  | [], _, _, _, _, _, _, h, _ => by cases h
  | _ :: _, [], _, _, _, _, h, _, _ => by cases h
  | i :: I, c :: cs, σ, k, j, hd, hl, hk, hj => by
    unfold setsL
    cases k with
    | zero =>
      simp only [List.getElem?_cons_zero, Option.some.injEq] at hk
      subst hk
      rw [setsL_out I cs (σ.set i c) i (fun q => by
        obtain ⟨b, hb⟩ := List.getElem?_of_mem q
        have := hd 0 (b + 1) i rfl (by simpa using hb)
        omega), List.getElem?_set_self hj]
      rfl
    | succ k =>
      rw [List.getElem?_cons_succ] at hk
      rw [setsL_in I cs (σ.set i c) k j (fun a b x h1 h2 => by
        have := hd (a + 1) (b + 1) x (by simpa using h1) (by simpa using h2)
        omega) (by simpa using hl) hk (by rw [List.length_set]; exact hj)]
      rfl
theorem paste_sets {σ h1 : SH} {as : List Value} {I : List Nat} (hI : cutOk σ as I = true) (hl : h1.length = I.length) : paste σ I h1 = setsL σ I (h1.map (urC I σ.length)) := by
  obtain ⟨hd, -, hc⟩ := cutOk_spec hI
  refine List.ext_getElem? fun j => ?_
  by_cases hj : j < σ.length
  · by_cases hm : j ∈ I
    · have hk := ix_get hm
      have hkl := ix_lt hm
      rw [setsL_in I _ σ (ixOf j I) j hd (by simp [hl]) hk hj]
      unfold paste
      rw [List.getElem?_append_left (by simp; exact hj), List.getElem?_mapIdx, List.getElem?_eq_getElem hj, List.getElem?_map, List.getElem?_eq_getElem (show ixOf j I < h1.length by omega)]
      simp only [Option.map_some, if_pos hm]
      rw [List.getD_eq_getElem?_getD, List.getElem?_eq_getElem (show ixOf j I < h1.length by omega)]
      rfl
    · rw [setsL_out I _ σ j hm, paste_other hj hm]
  · have e1 : (paste σ I h1)[j]? = none := List.getElem?_eq_none (by rw [paste_len, hl]; omega)
    have e2 : (setsL σ I (h1.map (urC I σ.length)))[j]? = none := List.getElem?_eq_none (by rw [setsL_len]; omega)
    rw [e1, e2]
section CH
variable {scr : Option (List Int32)} {ini : Bool} {o nL : Nat} {tb : List (List (Option XE))} {d pc ca cb : Nat} {lv : LV} {σ : SH} {R : Res}
theorem paste_nil : paste σ [] [] = σ := by
  unfold paste
  refine List.ext_getElem? fun j => ?_
  simp
/-- a call of numbers alone -/
theorem Ex.call0 {i : Instr} {len a b w c1 s1 : Nat} {st as rest : List Value} {r : Option Value} (hg : tbGet tb pc = some (i, len, 7, a, b, w)) (hi : isCall i = true) (hc : callIn a b st lv σ = some (as, rest)) (hn : as.all (fun v => (refsV v).isEmpty) = true)
    (hr : Rn d a as [] (r, [], c1, s1)) (hk : Ex scr ini o nL tb d (pc + 3, r.toList ++ rest, lv, σ, ca + c1, cb + s1) R) : Ex scr ini o nL tb d (pc, st, lv, σ, ca, cb) R := by
  have hn' : ∀ v ∈ as, refsV v = [] := fun v hv => by simpa using List.all_eq_true.mp hn v hv
  have hI : cutI σ as = [] := by unfold cutI; rw [flat_ints hn']; rfl
  have hok : cutOk σ as [] = true := by
    have h2 : as.all (fun v => (refsV v).all (fun i => decide (i ∈ ([] : List Nat)))) = true := List.all_eq_true.mpr fun v hv => by rw [hn' v hv]; rfl
    simp only [cutOk, h2]
    rfl
  refine Ex.call hg hi hc hI hok (by rw [map_ints hn']; exact hr) ⟨Nat.le_refl _, Or.inl rfl, rfl⟩ ?_
  rw [paste_nil]
  exact hk
/-- a call that makes no cell -/
theorem Ex.callS {i : Instr} {len a b w c1 s1 : Nat} {st as as' rest : List Value} {h h1 σ2 : SH} {I : List Nat} {r : Option Value} (hg : tbGet tb pc = some (i, len, 7, a, b, w)) (hi : isCall i = true) (hc : callIn a b st lv σ = some (as, rest)) (hI : cutI σ as = I) (has : as.map (rnV I) = as') (hh : subH σ I = h) (hok : cutOk σ as I = true)
    (hr : Rn d a as' h (r, h1, c1, s1)) (hl : h1.length = I.length) (ho : h1.all (okC h1.length) = true) (hp : setsL σ I (h1.map (urC I σ.length)) = σ2)
    (hk : Ex scr ini o nL tb d (pc + 3, r.toList ++ rest, lv, σ2, ca + c1, cb + s1) R) : Ex scr ini o nL tb d (pc, st, lv, σ, ca, cb) R := by
  subst has; subst hh; subst hp
  rw [← paste_sets hok hl] at hk
  exact Ex.call hg hi hc hI hok hr ⟨Nat.le_of_eq hl.symm, Or.inl hl, ho⟩ hk
/-- a call of the room's own that changes nothing -/
theorem Ex.callX {i : Instr} {len a b w c1 s1 : Nat} {st as rest : List Value} {I : List Nat} {r : Option Value} (hg : tbGet tb pc = some (i, len, 7, a, b, w)) (hi : isCall i = true) (hc : callIn a b st lv σ = some (.ref 0 :: as, rest)) (hn : as.all (fun v => (refsV v).isEmpty) = true)
    (hI : (reach σ 100000 [0] []).reverse = I) (hok : cutOk σ [.ref 0] I = true) (h0 : ixOf 0 I = 0) (hh : subH σ I = σ) (hpp : paste σ I σ = σ) (hl : σ.length = I.length) (ho : σ.all (okC σ.length) = true)
    (hr : Rn d a (.ref 0 :: as) σ (r, σ, c1, s1)) (hk : Ex scr ini o nL tb d (pc + 3, r.toList ++ rest, lv, σ, ca + c1, cb + s1) R) : Ex scr ini o nL tb d (pc, st, lv, σ, ca, cb) R := by
  have hn' : ∀ v ∈ as, refsV v = [] := fun v hv => by simpa using List.all_eq_true.mp hn v hv
  refine Ex.call (I := I) (h1 := σ) (r := r) (c1 := c1) (s1 := s1) hg hi hc (cut_ints hI hn') (cutOk_ints hok hn') ?_ ⟨Nat.le_of_eq hl.symm, Or.inl hl, ho⟩ ?_
  · rw [List.map_cons, map_ints hn', hh]
    show Rn d a (.ref (ixOf 0 I) :: as) σ (r, σ, c1, s1)
    rw [h0]
    exact hr
  · rw [hpp]; exact hk
end CH
def IX : List Nat := List.range 62
set_option maxRecDepth 100000 in
theorem xX1 : (reach hX 100000 [0] []).reverse = IX := by decide +kernel
set_option maxRecDepth 100000 in
theorem xX2 : cutOk hX [.ref 0] IX = true := by decide +kernel
set_option maxRecDepth 100000 in
theorem xX3 : subH hX IX = hX := eqH (by decide +kernel)
set_option maxRecDepth 100000 in
theorem xX4 : paste hX IX hX = hX := eqH (by decide +kernel)
def IM : List Nat := List.range 15
set_option maxRecDepth 100000 in
theorem xM1 : (reach hM 100000 [0] []).reverse = IM := by decide +kernel
set_option maxRecDepth 100000 in
theorem xM2 : cutOk hM [.ref 0] IM = true := by decide +kernel
set_option maxRecDepth 100000 in
theorem xM3 : subH hM IM = hM := eqH (by decide +kernel)
set_option maxRecDepth 100000 in
theorem xM4 : paste hM IM hM = hM := eqH (by decide +kernel)
