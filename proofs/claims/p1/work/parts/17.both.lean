/-! ===== both answer alike: how it is put together ===== -/
theorem mkI {mx mm : Nat} {as : List Value} {x : Int32} {h1 h2 : SH} {c1 s1 c2 s2 : Nat} (r1 : Rn 12 mx (.ref 0 :: as) hX (some (.int x), h1, c1, s1)) (r2 : Rn 12 mm (.ref 0 :: as) hM (some (.int x), h2, c2, s2)) (b : c1 ≤ 1000 ∧ s1 ≤ 100000 ∧ c2 ≤ 1000 ∧ s2 ≤ 100000) : BothI mx mm as := ⟨x, h1, h2, c1, s1, c2, s2, r1, r2, b⟩
theorem mkL {mx mm : Nat} {as : List Value} {x : Int64} {h1 h2 : SH} {c1 s1 c2 s2 : Nat} (r1 : Rn 12 mx (.ref 0 :: as) hX (some (.long x), h1, c1, s1)) (r2 : Rn 12 mm (.ref 0 :: as) hM (some (.long x), h2, c2, s2)) (b : c1 ≤ 1000 ∧ s1 ≤ 100000 ∧ c2 ≤ 1000 ∧ s2 ≤ 100000) : BothL mx mm as := ⟨x, h1, h2, c1, s1, c2, s2, r1, r2, b⟩
/-- a run of which all is known -/
theorem closed {F mi : Nat} {as : List Value} {σ : SH} {v : Value} {c s : Nat} (h : (runM F 12 mi as σ).map (fun q => (q.1, q.2.2.1, q.2.2.2)) = some (some v, c, s)) : ∃ h1, Rn 12 mi as σ (some v, h1, c, s) := by
  cases hr : runM F 12 mi as σ with
  | none => rw [hr] at h; cases h
  | some q =>
    obtain ⟨r, h1, c', s'⟩ := q
    rw [hr] at h
    simp only [Option.map_some, Option.some.injEq, Prod.mk.injEq] at h
    obtain ⟨rfl, rfl, rfl⟩ := h
    exact ⟨h1, F, hr⟩
section ENUM
theorem en_of {x : Int32} {k : Nat} (hk : k < 2 ^ 31) (h : x.toInt = k) : x = nI k := Int32.toInt_inj.mp (by rw [h, nI_toInt hk])
theorem lt_i {x y : Int32} : x < y ↔ x.toInt < y.toInt := Int32.lt_iff_toInt_lt
theorem en_b {x : Int32} {n : Nat} (hn : n < 2 ^ 31) (h1 : ¬ x < 0) (h2 : ¬ nI n < x) : ∃ k, k ≤ n ∧ x = nI k := by
  rw [lt_i] at h1 h2
  rw [nI_toInt hn] at h2
  have h0 : (0 : Int32).toInt = 0 := rfl
  rw [h0] at h1
  refine ⟨x.toInt.toNat, by omega, en_of (by omega) (by omega)⟩
end ENUM
section TS
variable {scr : Option (List Int32)} {ini : Bool} {o nL : Nat} {tb : List (List (Option XE))} {d pc ca cb : Nat} {lv : LV} {σ : SH} {R : Res}
theorem Ex.tsLo {dd lo hi : Int} {offs : Array Int} {len a b w pc' : Nat} {x nlo : Int32} {rest st' : List Value} (hg : tbGet tb pc = some (.tableswitch dd lo hi offs, len, 2, a, b, w)) (h : x < nlo) (hlo : nlo.toInt = lo) (ht : (jmp pc dd).map (fun t => (t, rest)) = some (pc', st')) (hk : Ex scr ini o nL tb d (pc', st', lv, σ, ca, cb) R) : Ex scr ini o nL tb d (pc, .int x :: rest, lv, σ, ca, cb) R := by
  refine Ex.step (S' := (pc', st', lv, σ, ca, cb)) ?_ hk
  have h1 : x.toInt < lo ∨ hi < x.toInt := Or.inl (by rw [← hlo]; exact lt_i.mp h)
  simp only [nxt, hg, stepC, if_pos h1, ht, Option.map_some]
theorem Ex.tsHi {dd lo hi : Int} {offs : Array Int} {len a b w pc' : Nat} {x nhi : Int32} {rest st' : List Value} (hg : tbGet tb pc = some (.tableswitch dd lo hi offs, len, 2, a, b, w)) (h : nhi < x) (hhi : nhi.toInt = hi) (ht : (jmp pc dd).map (fun t => (t, rest)) = some (pc', st')) (hk : Ex scr ini o nL tb d (pc', st', lv, σ, ca, cb) R) : Ex scr ini o nL tb d (pc, .int x :: rest, lv, σ, ca, cb) R := by
  refine Ex.step (S' := (pc', st', lv, σ, ca, cb)) ?_ hk
  have h1 : x.toInt < lo ∨ hi < x.toInt := Or.inr (by rw [← hhi]; exact lt_i.mp h)
  simp only [nxt, hg, stepC, if_pos h1, ht, Option.map_some]
end TS
