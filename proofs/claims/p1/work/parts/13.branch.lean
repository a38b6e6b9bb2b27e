/-! ===== branches on what is not a number yet; a call with all that it needs ===== -/
theorem cT_eq {x y : Int32} (h : x = y) : cnd .eq x y = true := decide_eq_true h
theorem cF_eq {x y : Int32} (h : ¬ x = y) : cnd .eq x y = false := decide_eq_false h
theorem cT_ne {x y : Int32} (h : ¬ x = y) : cnd .ne x y = true := decide_eq_true h
theorem cF_ne {x y : Int32} (h : x = y) : cnd .ne x y = false := decide_eq_false fun q => q h
theorem cT_lt {x y : Int32} (h : x < y) : cnd .lt x y = true := decide_eq_true h
theorem cF_lt {x y : Int32} (h : ¬ x < y) : cnd .lt x y = false := decide_eq_false h
theorem cT_ge {x y : Int32} (h : ¬ x < y) : cnd .ge x y = true := decide_eq_true (Int32.not_lt.mp h)
theorem cF_ge {x y : Int32} (h : x < y) : cnd .ge x y = false := decide_eq_false fun q => Int32.not_lt.mpr q h
theorem cT_gt {x y : Int32} (h : y < x) : cnd .gt x y = true := decide_eq_true h
theorem cF_gt {x y : Int32} (h : ¬ y < x) : cnd .gt x y = false := decide_eq_false h
theorem cT_le {x y : Int32} (h : ¬ y < x) : cnd .le x y = true := decide_eq_true (Int32.not_lt.mp h)
theorem cF_le {x y : Int32} (h : y < x) : cnd .le x y = false := decide_eq_false fun q => Int32.not_lt.mpr q h
section BR
variable {scr : Option (List Int32)} {ini : Bool} {o nL : Nat} {tb : List (List (Option XE))} {d pc ca cb : Nat} {lv : LV} {σ : SH} {R : Res}
theorem Ex.icmp {c : Jvm.ClassFile.Cond} {off : Int} {len a b w pc' : Nat} {x y : Int32} {v : Bool} {rest st' : List Value} (hg : tbGet tb pc = some (.if_icmp c off, len, 2, a, b, w)) (hc : cnd c x y = v) (ht : jIf v pc off rest = some (pc', st')) (hk : Ex scr ini o nL tb d (pc', st', lv, σ, ca, cb) R) : Ex scr ini o nL tb d (pc, .int y :: .int x :: rest, lv, σ, ca, cb) R := by
  refine Ex.step (S' := (pc', st', lv, σ, ca, cb)) ?_ hk
  simp only [nxt, hg, stepC, hc, ht, Option.map_some]
theorem Ex.ifc {c : Jvm.ClassFile.Cond} {off : Int} {len a b w pc' : Nat} {x : Int32} {v : Bool} {rest st' : List Value} (hg : tbGet tb pc = some (.ifCond c off, len, 2, a, b, w)) (hc : cnd c x 0 = v) (ht : jIf v pc off rest = some (pc', st')) (hk : Ex scr ini o nL tb d (pc', st', lv, σ, ca, cb) R) : Ex scr ini o nL tb d (pc, .int x :: rest, lv, σ, ca, cb) R := by
  refine Ex.step (S' := (pc', st', lv, σ, ca, cb)) ?_ hk
  simp only [nxt, hg, stepC, hc, ht, Option.map_some]
theorem Ex.callR {i : Instr} {len a b w c1 s1 : Nat} {st as as' rest : List Value} {h h1 σ2 : SH} {I : List Nat} {r : Option Value} (hg : tbGet tb pc = some (i, len, 7, a, b, w)) (hi : isCall i = true) (hc : callIn a b st lv σ = some (as, rest)) (hI : cutI σ as = I) (has : as.map (rnV I) = as') (hh : subH σ I = h) (hok : cutOk σ as I = true)
    (hr : Rn d a as' h (r, h1, c1, s1)) (hl : I.length ≤ h1.length) (hw : h1.length = I.length ∨ (σ.all (okC σ.length) = true ∧ σ.length + h1.length < sIdx)) (ho : h1.all (okC h1.length) = true) (hp : paste σ I h1 = σ2)
    (hk : Ex scr ini o nL tb d (pc + 3, r.toList ++ rest, lv, σ2, ca + c1, cb + s1) R) : Ex scr ini o nL tb d (pc, st, lv, σ, ca, cb) R := by
  subst has; subst hh; subst hp
  exact Ex.call hg hi hc hI hok hr ⟨hl, hw, ho⟩ hk
end BR
