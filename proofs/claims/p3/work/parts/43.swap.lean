/-! ===== macros: 240 places of the model's row swapped with 240 others ===== -/
noncomputable def tPu (c : Nat) (_ : Nat) (e : XE) : Bool := match e with
  | (.sipush n, _, 0, _, _) => decide ((Int16.ofInt n).toInt32 = Int32.ofNat c)
  | _ => false
noncomputable def tSt (y : Nat) (_ : Nat) (e : XE) : Bool := match e with
  | (.istore k, _, 1, _, _) => Nat.beq k y
  | (.istore_n k, _, 1, _, _) => Nat.beq k.val y
  | _ => false
section MAC3
variable {ini : Bool} {o nL : Nat} {tb : List (List (Option XE))} {d : Nat} {Q : Res → Prop} {pc : Nat} {e : XE} {st : List Value} {lv : LV} {σ : SH} {ca cb : Nat}
theorem m_pu {c : Nat} (hg : tbGet tb pc = some e) (h : tPu c pc e = true) (k : Good none ini o nL tb d Q (pc + e.2.1, .int (Int32.ofNat c) :: st, lv, σ, ca, cb)) : Good none ini o nL tb d Q (pc, st, lv, σ, ca, cb) := by
  refine Good.step ?_ k
  unfold tPu at h
  split at h
  · have e1 := of_decide_eq_true h
    simp only [nxt, hg, stepA, e1, Option.map_some]
  · cases h
theorem m_st {y : Nat} {v : Int32} (hg : tbGet tb pc = some e) (h : tSt y pc e = true) (hl : y < nL) (k : Good none ini o nL tb d Q (pc + e.2.1, st, lvSet1 lv y (.int v), σ, ca, cb)) : Good none ini o nL tb d Q (pc, .int v :: st, lv, σ, ca, cb) := by
  refine Good.step ?_ k
  unfold tSt at h
  split at h
  · have e1 := Nat.eq_of_beq_eq_true h
    subst e1
    simp only [nxt, hg, stepB, stI, hl, if_pos, Option.map_some]
  · have e1 := Nat.eq_of_beq_eq_true h
    simp only [nxt, hg, stepB, stI, e1, hl, if_pos, Option.map_some]
  · cases h
end MAC3
noncomputable def swapTs (H x y ci sF ex : Nat) : List (Nat → XE → Bool) := [tLd x, tPu 240, tGe ex, tA0, tGf ci sF, tPu 200, tLd x, tAdd, tIl, tSt y, tA0, tGf ci sF, tPu 200, tLd x, tAdd, tA0, tGf ci sF, tPu 440, tLd x, tAdd, tIl, tIs, tA0, tGf ci sF, tPu 440, tLd x, tAdd, tLd y, tIs, tInc x, tGo H]
/-- the first k places of the two blocks are swapped -/
noncomputable def swapped (f g : List Int32) (k : Nat) : Prop := g.length = f.length ∧ ∀ i, g[i]? = if 200 ≤ i ∧ i < 200 + k then f[i + 240]? else if 440 ≤ i ∧ i < 440 + k then f[i - 240]? else f[i]?
theorem swap_next {f g : List Int32} {k : Nat} (h : swapped f g k) (hk : k < 240) (hf : f.length = 910) : swapped f ((g.set (200 + k) (g.getD (440 + k) 0)).set (440 + k) (g.getD (200 + k) 0)) (k + 1) := by
  obtain ⟨h1, h2⟩ := h
  refine ⟨by rw [List.length_set, List.length_set]; exact h1, fun i => ?_⟩
  have ga : g.getD (440 + k) 0 = f.getD (440 + k) 0 := by
    rw [List.getD_eq_getElem?_getD, List.getD_eq_getElem?_getD, h2, if_neg (by omega), if_neg (by omega)]
  have gb : g.getD (200 + k) 0 = f.getD (200 + k) 0 := by
    rw [List.getD_eq_getElem?_getD, List.getD_eq_getElem?_getD, h2, if_neg (by omega), if_neg (by omega)]
  by_cases c1 : 440 + k = i
  · subst c1
    rw [List.getElem?_set_self (by rw [List.length_set]; omega), if_neg (by omega), if_pos (by omega), gb, getD_lt (by omega), show 440 + k - 240 = 200 + k by omega, List.getElem?_eq_getElem (by omega)]
  · rw [List.getElem?_set_ne c1]
    by_cases c2 : 200 + k = i
    · subst c2
      rw [List.getElem?_set_self (by omega), if_pos (by omega), ga, getD_lt (by omega), show 200 + k + 240 = 440 + k by omega, List.getElem?_eq_getElem (by omega)]
    · rw [List.getElem?_set_ne c2, h2]
      by_cases d1 : 200 ≤ i ∧ i < 200 + k
      · have e1 : 200 ≤ i ∧ i < 200 + (k + 1) := by omega
        rw [if_pos d1, if_pos e1]
      · have e1 : ¬(200 ≤ i ∧ i < 200 + (k + 1)) := by omega
        rw [if_neg d1, if_neg e1]
        by_cases d2 : 440 ≤ i ∧ i < 440 + k
        · have e2 : 440 ≤ i ∧ i < 440 + (k + 1) := by omega
          rw [if_pos d2, if_pos e2]
        · have e2 : ¬(440 ≤ i ∧ i < 440 + (k + 1)) := by omega
          rw [if_neg d2, if_neg e2]
theorem swap_loop {ini : Bool} {o nL : Nat} {tb : List (List (Option XE))} {d : Nat} {Q : Res → Prop} {H x y ci sF ex q0 qs : Nat} {fl : List Value} {f : List Int32} {st : List Value} (hw : walk tb H (swapTs H x y ci sF ex) = true) (hx0 : x ≠ 0) (hy0 : y ≠ 0) (hxy : x ≠ y) (hxl : x < nL) (hyl : y < nL) (hn0 : qs ≠ q0) (hf : f.length = 910) (hs : fl[sF]? = some (.ref qs)) : ∀ (n k : Nat) (v : Int32) (g : List Int32) (lv : LV) (σ : SH), n + k = 240 → v.toInt = k → swapped f g k → lvGet lv x = some (.int v) → lvGet lv 0 = some (.ref q0) → σ[q0]? = some (.inl (ci, fl)) → σ[qs]? = some (.inr (0, .inl g)) →
    ∃ (lvE : LV) (g' : List Int32), swapped f g' 240 ∧ (∀ j w, j ≠ x → j ≠ y → lvGet lv j = some w → (w.category ≠ 2 ∨ (j + 1 ≠ x ∧ j + 1 ≠ y)) → lvGet lvE j = some w) ∧ lvGet lvE x = some (.int 240) ∧ (∀ m, lvOk m lv → lvOk m lvE) ∧ ∀ ca cb, Good none ini o nL tb d Q (ex, st, lvE, σ.set qs (.inr (0, .inl g')), ca, cb) → Good none ini o nL tb d Q (H, st, lv, σ, ca, cb) := by
  intro n
  obtain ⟨e0, a0, b0, hw⟩ := walk_cons hw
  obtain ⟨e1, a1, b1, hw⟩ := walk_cons hw
  obtain ⟨e2, a2, b2, hw⟩ := walk_cons hw
  obtain ⟨e3, a3, b3, hw⟩ := walk_cons hw
  obtain ⟨e4, a4, b4, hw⟩ := walk_cons hw
  obtain ⟨e5, a5, b5, hw⟩ := walk_cons hw
  obtain ⟨e6, a6, b6, hw⟩ := walk_cons hw
  obtain ⟨e7, a7, b7, hw⟩ := walk_cons hw
  obtain ⟨e8, a8, b8, hw⟩ := walk_cons hw
  obtain ⟨e9, a9, b9, hw⟩ := walk_cons hw
  obtain ⟨e10, a10, b10, hw⟩ := walk_cons hw
  obtain ⟨e11, a11, b11, hw⟩ := walk_cons hw
  obtain ⟨e12, a12, b12, hw⟩ := walk_cons hw
  obtain ⟨e13, a13, b13, hw⟩ := walk_cons hw
  obtain ⟨e14, a14, b14, hw⟩ := walk_cons hw
  obtain ⟨e15, a15, b15, hw⟩ := walk_cons hw
  obtain ⟨e16, a16, b16, hw⟩ := walk_cons hw
  obtain ⟨e17, a17, b17, hw⟩ := walk_cons hw
  obtain ⟨e18, a18, b18, hw⟩ := walk_cons hw
  obtain ⟨e19, a19, b19, hw⟩ := walk_cons hw
  obtain ⟨e20, a20, b20, hw⟩ := walk_cons hw
  obtain ⟨e21, a21, b21, hw⟩ := walk_cons hw
  obtain ⟨e22, a22, b22, hw⟩ := walk_cons hw
  obtain ⟨e23, a23, b23, hw⟩ := walk_cons hw
  obtain ⟨e24, a24, b24, hw⟩ := walk_cons hw
  obtain ⟨e25, a25, b25, hw⟩ := walk_cons hw
  obtain ⟨e26, a26, b26, hw⟩ := walk_cons hw
  obtain ⟨e27, a27, b27, hw⟩ := walk_cons hw
  obtain ⟨e28, a28, b28, hw⟩ := walk_cons hw
  obtain ⟨e29, a29, b29, hw⟩ := walk_cons hw
  obtain ⟨e30, a30, b30, -⟩ := walk_cons hw
  have h240 : (Int32.ofNat 240).toInt = 240 := by decide
  induction n with
  | zero =>
    intro k v g lv σ hnk hv hsw hx h0 hq0 hqs
    have hk : k = 240 := by omega
    subst hk
    have hv' : v = Int32.ofNat 240 := Int32.toInt_inj.mp (by rw [hv, h240]; rfl)
    have hset : σ.set qs (.inr (0, .inl g)) = σ := by
      refine List.ext_getElem? fun j => ?_
      by_cases hj : qs = j
      · subst hj
        rw [List.getElem?_set_self (List.getElem?_eq_some_iff.mp hqs).1, hqs]
      · rw [List.getElem?_set_ne hj]
    refine ⟨lv, g, hsw, fun j w _ _ h _ => h, by rw [hx, hv']; rfl, fun m h => h, fun ca cb kk => m_ld a0 b0 hx (m_pu a1 b1 (m_ge a2 b2 ?_))⟩
    rw [if_pos (by rw [hv']; exact Int32.le_refl _)]
    rw [hset] at kk
    exact kk
  | succ n ih =>
    intro k v g lv σ hnk hv hsw hx h0 hq0 hqs
    have hv1 : (v + 1).toInt = ((k + 1 : Nat) : Int) := by
      rw [Int32.toInt_add, hv, show (1 : Int32).toInt = 1 by decide, Int.bmod_eq_of_le (by omega) (by omega)]
      rfl
    have hgl : g.length = 910 := hsw.1.trans hf
    have hlt : qs < σ.length := (List.getElem?_eq_some_iff.mp hqs).1
    have hidx : ∀ (c : Nat), c ≤ 600 → (Int32.ofNat c).toInt = (c : Int) → ∀ l : List Int32, l.length = 910 → inB (Int32.ofNat c + v) l.length = true ∧ (Int32.ofNat c + v).toNatClampNeg = c + k := fun c hc hc2 l hl => by
      have e : (Int32.ofNat c + v).toInt = ((c + k : Nat) : Int) := by
        rw [Int32.toInt_add, hc2, hv, Int.bmod_eq_of_le (by omega) (by omega)]
        rfl
      have hcl : (Int32.ofNat c + v).toNatClampNeg = c + k := by
        have : (Int32.ofNat c + v).toNatClampNeg = (Int32.ofNat c + v).toInt.toNat := rfl
        rw [this, e]
        exact Int.toNat_natCast _
      refine ⟨?_, hcl⟩
      unfold inB
      rw [Bool.and_eq_true, decide_eq_true_eq, decide_eq_true_eq, hcl, hl, Int32.le_iff_toInt_le, e]
      exact ⟨Int.natCast_nonneg _, by omega⟩
    have i2 := hidx 200 (by omega) (by decide)
    have i4 := hidx 440 (by omega) (by decide)
    -- behind the temp
    let lv1 := lvSet1 lv y (.int (g.getD (200 + k) 0))
    have x1 : lvGet lv1 x = some (.int v) := lvGet_s1_ne hx (fun e => hxy e.symm) (Or.inl (show (1 : Nat) ≠ 2 by decide))
    have z1 : lvGet lv1 0 = some (.ref q0) := lvGet_s1_ne h0 hy0 (Or.inl (show (1 : Nat) ≠ 2 by decide))
    have y1 : lvGet lv1 y = some (.int (g.getD (200 + k) 0)) := lvGet_s1
    let g1 := g.set (200 + k) (g.getD (440 + k) 0)
    let g2 := g1.set (440 + k) (g.getD (200 + k) 0)
    have g1l : g1.length = 910 := by show (g.set _ _).length = 910; rw [List.length_set]; exact hgl
    let σ1 := σ.set qs (.inr (0, .inl g1))
    let σ2 := σ1.set qs (.inr (0, .inl g2))
    have s10 : σ1[q0]? = some (.inl (ci, fl)) := by show (σ.set qs _)[q0]? = _; rw [List.getElem?_set_ne hn0]; exact hq0
    have s1s : σ1[qs]? = some (.inr (0, .inl g1)) := by show (σ.set qs _)[qs]? = _; rw [List.getElem?_set_self hlt]
    have e12 : σ2 = σ.set qs (.inr (0, .inl g2)) := set_set
    have s20 : σ2[q0]? = some (.inl (ci, fl)) := by rw [e12, List.getElem?_set_ne hn0]; exact hq0
    have s2s : σ2[qs]? = some (.inr (0, .inl g2)) := by rw [e12, List.getElem?_set_self hlt]
    obtain ⟨lvE, g', w0, w1, w2, w3, w4⟩ := ih (k + 1) (v + 1) g2 (lvSet1 lv1 x (.int (v + 1))) σ2 (by omega) hv1 (swap_next hsw (by omega) hf) lvGet_s1 (lvGet_s1_ne z1 hx0 (Or.inl (show (1 : Nat) ≠ 2 by decide))) s20 s2s
    refine ⟨lvE, g', w0, fun j w hj hjy hw hc => w1 j w hj hjy (lvGet_s1_ne (lvGet_s1_ne hw (fun e => hjy e.symm) (hc.imp id And.right)) (fun e => hj e.symm) (hc.imp id And.left)) hc, w2, fun m hm => w3 m (lvOk_set1 (lvOk_set1 hm rfl) rfl), fun ca cb kk => m_ld a0 b0 hx (m_pu a1 b1 (m_ge a2 b2 ?_))⟩
    rw [if_neg (by rw [Int32.le_iff_toInt_le, hv, h240]; omega)]
    have t1 : (Int32.ofNat 200 + v).toNatClampNeg = 200 + k := (i2 g hgl).2
    have t2 : (Int32.ofNat 440 + v).toNatClampNeg = 440 + k := (i4 g hgl).2
    refine m_a0 a3 b3 h0 (m_gf a4 b4 hq0 hs (m_pu a5 b5 (m_ld a6 b6 hx (m_add a7 b7 (m_il a8 b8 hqs (i2 g hgl).1 ?_)))))
    rw [t1]
    refine m_st a9 b9 hyl (m_a0 a10 b10 z1 (m_gf a11 b11 hq0 hs (m_pu a12 b12 (m_ld a13 b13 x1 (m_add a14 b14 (m_a0 a15 b15 z1 (m_gf a16 b16 hq0 hs (m_pu a17 b17 (m_ld a18 b18 x1 (m_add a19 b19 (m_il a20 b20 hqs (i4 g hgl).1 (m_is a21 b21 hqs (i2 g hgl).1 ?_))))))))))))
    rw [t1, t2]
    refine m_a0 a22 b22 z1 (m_gf a23 b23 s10 hs (m_pu a24 b24 (m_ld a25 b25 x1 (m_add a26 b26 (m_ld a27 b27 y1 (m_is a28 b28 s1s (i4 g1 g1l).1 ?_))))))
    rw [t2]
    refine m_inc a29 b29 x1 hxl (m_go a30 b30 (w4 ca cb ?_))
    rw [e12, set_set]
    exact kk
noncomputable def prSw (q : Nat) (pr : List PD) : List PD := (bif hasK 1 q pr then [(1, [q], [])] else []) ++ (bif hasK 2 q pr then [(2, [q], [])] else [])
theorem prSw_ok {ρ : Nat → Int} {cσ : SH} {pr : List PD} {q : Nat} {f g : List Int32} (hp : prOk PPk ρ cσ pr) (hs : cσ[q]? = some (.inr (0, .inl f))) (hf : f.length = 910) (hw : swapped f g 240) : prOk PPk ρ (cσ.set q (.inr (0, .inl g))) (prSw q pr) := fun p hq => by
  have hl : q < cσ.length := (List.getElem?_eq_some_iff.mp hs).1
  have eS : arrI (cσ.getD q (.inl (0, []))) = f := by rw [List.getD_eq_getElem?_getD, hs]; rfl
  have eN : arrI ((cσ.set q (.inr (0, .inl g))).getD q (.inl (0, []))) = g := by rw [List.getD_eq_getElem?_getD, List.getElem?_set_self hl]; rfl
  have gi : ∀ i, gI g i = if 200 ≤ i ∧ i < 440 then gI f (i + 240) else if 440 ≤ i ∧ i < 680 then gI f (i - 240) else gI f i := fun i => by
    unfold gI
    rw [List.getD_eq_getElem?_getD, hw.2]
    by_cases c1 : 200 ≤ i ∧ i < 440
    · rw [if_pos c1, if_pos c1, List.getD_eq_getElem?_getD]
    · rw [if_neg c1, if_neg c1]
      by_cases c2 : 440 ≤ i ∧ i < 680
      · rw [if_pos c2, if_pos c2, List.getD_eq_getElem?_getD]
      · rw [if_neg c2, if_neg c2, List.getD_eq_getElem?_getD]
  rcases List.mem_append.mp hq with hq | hq
  · cases z : hasK 1 q pr with
    | false => rw [z] at hq; cases hq
    | true =>
      rw [z] at hq
      rw [List.mem_singleton.mp hq]
      have p1 : okSteps (arrI (cσ.getD q (.inl (0, [])))) := hp _ (hasK_ok z)
      rw [eS] at p1
      show okSteps (arrI _)
      rw [eN]
      refine ⟨hw.1.trans hf, fun i hi => ?_⟩
      rcases Nat.lt_or_ge i 60 with hi6 | hi6
      · have := p1.2 (i + 60) (by omega)
        rw [gi, gi, gi, gi, if_pos (by omega), if_pos (by omega), if_pos (by omega), if_pos (by omega)]
        rw [show 200 + 4 * i + 240 = 200 + 4 * (i + 60) by omega, show 201 + 4 * i + 240 = 201 + 4 * (i + 60) by omega, show 202 + 4 * i + 240 = 202 + 4 * (i + 60) by omega, show 203 + 4 * i + 240 = 203 + 4 * (i + 60) by omega]
        exact this
      · have := p1.2 (i - 60) (by omega)
        rw [gi, gi, gi, gi, if_neg (by omega), if_pos (by omega), if_neg (by omega), if_pos (by omega), if_neg (by omega), if_pos (by omega), if_neg (by omega), if_pos (by omega)]
        rw [show 200 + 4 * i - 240 = 200 + 4 * (i - 60) by omega, show 201 + 4 * i - 240 = 201 + 4 * (i - 60) by omega, show 202 + 4 * i - 240 = 202 + 4 * (i - 60) by omega, show 203 + 4 * i - 240 = 203 + 4 * (i - 60) by omega]
        exact this
  · cases z : hasK 2 q pr with
    | false => rw [z] at hq; cases hq
    | true =>
      rw [z] at hq
      rw [List.mem_singleton.mp hq]
      have p1 : okHarm (arrI (cσ.getD q (.inl (0, [])))) := hp _ (hasK_ok z)
      rw [eS] at p1
      show okHarm (arrI _)
      rw [eN]
      intro i hi
      rw [gi, gi, if_neg (by omega), if_neg (by omega), if_neg (by omega), if_neg (by omega)]
      exact p1 i hi
/-- the seals of the two programs change their places -/
noncomputable def sw9 (q : Nat) (p : PD) : Option PD := match p.2.1, p.2.2 with
  | [q'], [(.ofNat o, []), n, t] => bif Nat.beq p.1 9 then (bif Nat.beq q' q then (bif Nat.beq o 200 then some (9, [q], [kL (.ofNat 440), n, t]) else bif Nat.beq o 440 then some (9, [q], [kL (.ofNat 200), n, t]) else none) else none) else none
  | _, _ => none
theorem sw9_ok {ρ : Nat → Int} {cσ : SH} {pr : List PD} {q : Nat} {f g : List Int32} (hp : prOk PPk ρ cσ pr) (hs : cσ[q]? = some (.inr (0, .inl f))) (hf : f.length = 910) (hw : swapped f g 240) : prOk PPk ρ (cσ.set q (.inr (0, .inl g))) (pr.filterMap (sw9 q)) := fun p hq => by
  have hl : q < cσ.length := (List.getElem?_eq_some_iff.mp hs).1
  have eS : arrI (cσ.getD q (.inl (0, []))) = f := by rw [List.getD_eq_getElem?_getD, hs]; rfl
  have eN : arrI ((cσ.set q (.inr (0, .inl g))).getD q (.inl (0, []))) = g := by rw [List.getD_eq_getElem?_getD, List.getElem?_set_self hl]; rfl
  have hgl : g.length = 910 := hw.1.trans hf
  have gi : ∀ i, gI g i = if 200 ≤ i ∧ i < 440 then gI f (i + 240) else if 440 ≤ i ∧ i < 680 then gI f (i - 240) else gI f i := fun i => by
    unfold gI
    rw [List.getD_eq_getElem?_getD, hw.2]
    by_cases c1 : 200 ≤ i ∧ i < 440
    · rw [if_pos c1, if_pos c1, List.getD_eq_getElem?_getD]
    · rw [if_neg c1, if_neg c1]
      by_cases c2 : 440 ≤ i ∧ i < 680
      · rw [if_pos c2, if_pos c2, List.getD_eq_getElem?_getD]
      · rw [if_neg c2, if_neg c2, List.getD_eq_getElem?_getD]
  replace hq := List.mem_filterMap.mp hq
  obtain ⟨p0, hm, hq⟩ := hq
  unfold sw9 at hq
  split at hq
  · rename_i q' o n t hq1 hq2
    obtain ⟨k0, l0, ns0⟩ := p0
    try dsimp only at hq1 hq2 hq
    subst hq1; subst hq2
    cases z0 : Nat.beq k0 9 with
    | false => rw [z0] at hq; cases hq
    | true =>
      rw [z0, cond_true] at hq
      have ek := Nat.eq_of_beq_eq_true z0
      subst ek
      obtain ⟨p1, m, q1, q2, q3, q4, q5⟩ := pn9 hp hm
      rw [show ev ρ ((.ofNat o, []) : Ln) = (o : Int) from ev_k ρ o] at q1
      have ep : p1 = o := by omega
      subst ep
      cases z1 : Nat.beq q' q with
      | false => rw [z1] at hq; cases hq
      | true =>
        rw [z1, cond_true] at hq
        have eq := Nat.eq_of_beq_eq_true z1
        subst eq
        rw [eS] at q4 q5
        cases z2 : Nat.beq p1 200 with
        | true =>
          rw [z2, cond_true] at hq
          have e2 := Nat.eq_of_beq_eq_true z2
          subst e2
          cases hq
          show PPn 9 [arrI ((cσ.set q' (.inr (0, .inl g))).getD q' (.inl (0, [])))] [ev ρ (kL (.ofNat 440)), ev ρ n, ev ρ t]
          rw [eN, ev_k]
          refine Or.inr (Or.inl ⟨rfl, 440, m, rfl, q2, q3, by omega, ?_⟩)
          rw [q5]
          refine (pR_eq m fun j hj => ?_).symm
          rw [gi, if_neg (by omega), if_pos (by omega), show 440 + j - 240 = 200 + j by omega]
        | false =>
          rw [z2, cond_false] at hq
          cases z3 : Nat.beq p1 440 with
          | false => rw [z3] at hq; cases hq
          | true =>
            rw [z3, cond_true] at hq
            have e2 := Nat.eq_of_beq_eq_true z3
            subst e2
            cases hq
            show PPn 9 [arrI ((cσ.set q' (.inr (0, .inl g))).getD q' (.inl (0, [])))] [ev ρ (kL (.ofNat 200)), ev ρ n, ev ρ t]
            rw [eN, ev_k]
            refine Or.inr (Or.inl ⟨rfl, 200, m, rfl, q2, q3, by omega, ?_⟩)
            rw [q5]
            refine (pR_eq m fun j hj => ?_).symm
            rw [gi, if_pos (by omega), show 200 + j + 240 = 440 + j by omega]
  · cases hq
/-- the slots stand behind both -/
noncomputable def sw17 (q : Nat) (p : PD) : Option PD := match p.2.1, p.2.2 with
  | [q'], [(.ofNat o, []), n, t] => bif Nat.beq p.1 17 then (bif Nat.beq q' q then (bif Nat.ble 680 o then some (17, [q], [kL (.ofNat o), n, t]) else none) else none) else none
  | _, _ => none
theorem sw17_ok {ρ : Nat → Int} {cσ : SH} {pr : List PD} {q : Nat} {f g : List Int32} (hp : prOk PPk ρ cσ pr) (hs : cσ[q]? = some (.inr (0, .inl f))) (hf : f.length = 910) (hw : swapped f g 240) : prOk PPk ρ (cσ.set q (.inr (0, .inl g))) (pr.filterMap (sw17 q)) := fun p hq => by
  have hl : q < cσ.length := (List.getElem?_eq_some_iff.mp hs).1
  have eS : arrI (cσ.getD q (.inl (0, []))) = f := by rw [List.getD_eq_getElem?_getD, hs]; rfl
  have eN : arrI ((cσ.set q (.inr (0, .inl g))).getD q (.inl (0, []))) = g := by rw [List.getD_eq_getElem?_getD, List.getElem?_set_self hl]; rfl
  have hgl : g.length = f.length := hw.1
  have gi : ∀ i, 680 ≤ i → gI g i = gI f i := fun i hi => by
    unfold gI
    rw [List.getD_eq_getElem?_getD, hw.2, if_neg (by omega), if_neg (by omega), List.getD_eq_getElem?_getD]
  replace hq := List.mem_filterMap.mp hq
  obtain ⟨p0, hm, hq⟩ := hq
  unfold sw17 at hq
  split at hq
  · rename_i q' o n t hq1 hq2
    obtain ⟨k0, l0, ns0⟩ := p0
    try dsimp only at hq1 hq2 hq
    subst hq1; subst hq2
    cases z0 : Nat.beq k0 17 with
    | false => rw [z0] at hq; cases hq
    | true =>
      rw [z0, cond_true] at hq
      have ek := Nat.eq_of_beq_eq_true z0
      subst ek
      have h3 := pn17 hp hm
      cases z1 : Nat.beq q' q with
      | false => rw [z1] at hq; cases hq
      | true =>
        rw [z1, cond_true] at hq
        have eq := Nat.eq_of_beq_eq_true z1
        subst eq
        rw [eS] at h3
        cases z2 : Nat.ble 680 o with
        | false => rw [z2] at hq; cases hq
        | true =>
          rw [z2, cond_true] at hq
          have z2' := Nat.le_of_ble_eq_true z2
          cases hq
          show PPn 17 [arrI ((cσ.set q' (.inr (0, .inl g))).getD q' (.inl (0, [])))] [ev ρ (kL (.ofNat o)), ev ρ n, ev ρ t]
          rw [eN, ev_k]
          have hlen : ∀ m : Nat, ev ρ n = m → ∀ i, i < m → o + 1 + 3 * i < f.length ∧ o + 2 + 3 * i < f.length := fun m hm i hi => by
            obtain ⟨m', w, e1, -, -, e4, -⟩ := h3
            have em : m' = m := by omega
            subst em
            exact (e4 i hi).1
          refine pn17_mk (okOcc_mv (fun m hm hm8 i hi => ⟨?_, ?_, ?_⟩) h3)
          · rw [hgl]
            exact hlen m hm i hi
          · exact gi _ (by omega)
          · exact gi _ (by omega)
  · cases hq
noncomputable def mSwap (H x y ci sF ex : Nat) : MC := fun nL tb pc st lv A pr nx tab fs => bif (bif Nat.beq pc H then (bif Nat.blt 0 x then (bif Nat.blt x nL then (bif Nat.blt y nL then (bif Nat.blt 0 y then (bif Nat.beq x y then false else true) else false) else false) else false) else false) else false) then (bif walk tb H (swapTs H x y ci sF ex) then (match alGet x lv, alGet 0 lv with
  | some (.inl (false, e)), some (.inr (.inl (some o))) => (match cst tab e, A[o]? with
    | some (.ofNat 0), some (.inl (c', as)) => (match refAt as sF with
      | some s => (match A[s]? with
        | some (.inr (0, .inl ss)) => bif (bif Nat.beq c' ci then Nat.beq (sgLen ss) 910 else false) then (match sgSplit ss 200, sgSplit ss 680 with
          | some (g1, _), some (_, g3) => some (ex, st, (x, .inl (false, kL (.ofNat 240))) :: alDel false x (alDel false y lv), A.set s (.inr (0, .inl (g1 ++ .inr (480, lo32, hi32) :: g3))), prSw s pr ++ (pr.filterMap (sw9 s) ++ (pr.filterMap (sw17 s) ++ prDel s pr)), nx, tab, fs)
          | _, _ => none) else none
        | _ => none)
      | _ => none)
    | _, _ => none)
  | _, _ => none) else none) else none
theorem mSwap_ok (H x y ci sF ex : Nat) : McOk PPk (mSwap H x y ci sF ex) := by
  intro ini o nL tb d Q pc st lv A pr nx tab fs pc' st' lv' A' pr' nx' tab' fs' ρ cst0 clv cσ h hr hp hlv
  unfold mSwap at h
  obtain ⟨g0, hk⟩ : (bif Nat.beq pc H then (bif Nat.blt 0 x then (bif Nat.blt x nL then (bif Nat.blt y nL then (bif Nat.blt 0 y then (bif Nat.beq x y then false else true) else false) else false) else false) else false) else false) = true ∧ _ := by
    cases z : (bif Nat.beq pc H then (bif Nat.blt 0 x then (bif Nat.blt x nL then (bif Nat.blt y nL then (bif Nat.blt 0 y then (bif Nat.beq x y then false else true) else false) else false) else false) else false) else false) with
    | false => rw [z] at h; cases h
    | true => rw [z] at h; exact ⟨rfl, h⟩
  clear h
  obtain ⟨g1, g2⟩ := cand g0
  obtain ⟨g3, g4⟩ := cand g2
  obtain ⟨g5, g6⟩ := cand g4
  obtain ⟨g7, g8⟩ := cand g6
  obtain ⟨g9, g10⟩ := cand g8
  have hxy : x ≠ y := fun e => by
    rw [e, Nat.beq_refl, cond_true] at g10
    cases g10
  have epc := Nat.eq_of_beq_eq_true g1
  subst epc
  simp only [cond_true] at hk
  cases hw : walk tb pc (swapTs pc x y ci sF ex) with
  | false => rw [hw] at hk; cases hk
  | true =>
    rw [hw] at hk
    simp only [cond_true] at hk
    split at hk
    · rename_i e q0 hx h0
      split at hk
      · rename_i c' as hc hA0
        split at hk
        · rename_i qs hs
          split at hk
          · rename_i ss hAs
            cases z : (bif Nat.beq c' ci then Nat.beq (sgLen ss) 910 else false) with
            | false => rw [z] at hk; cases hk
            | true =>
              rw [z] at hk
              simp only [cond_true] at hk
              obtain ⟨z1, z2⟩ := cand z
              have ec := Nat.eq_of_beq_eq_true z1
              subst ec
              split at hk
              · rename_i s1 s2 s2' s3 hs1 hs3
                cases hk
                obtain ⟨t1, t2, t3, t4, t5⟩ := hr ρ agr2.rf
                obtain ⟨vx, vx1, vx2⟩ := lvR_get t4 hx
                obtain ⟨v, ev1, ev2⟩ := vI_inv vx2
                subst ev1
                obtain ⟨v0, v01, v02⟩ := lvR_get t4 h0
                have := vR_inv v02
                subst this
                obtain ⟨co, co1, co2⟩ := rel2_get t5 hA0
                obtain ⟨fl, co3, co4⟩ := crO_inv co2
                subst co3
                obtain ⟨cs, cs1, cs2⟩ := rel2_get t5 hAs
                obtain ⟨f, cs3, cs4⟩ := crI_inv (by decide) cs2
                subst cs3
                have hf : f.length = 910 := by rw [srel_len cs4]; exact Nat.eq_of_beq_eq_true z2
                have hv : v.toInt = (0 : Nat) := by
                  rw [ev2, cst_ok t1 hc]
                  rfl
                have hn0 : qs ≠ q0 := fun e => by
                  subst e
                  rw [hAs] at hA0
                  cases hA0
                obtain ⟨lvE, g, k0, k1, k2, k3, k4⟩ := swap_loop (ini := ini) (o := o) (d := d) (Q := Q) (st := cst0) hw (by have := blt_iff.mp g3; omega) (by have := blt_iff.mp g9; omega) hxy (blt_iff.mp g5) (blt_iff.mp g7) hn0 hf (refAt_ok co4 hs) 240 0 v f clv cσ rfl hv ⟨rfl, fun i => by rw [if_neg (by omega), if_neg (by omega)]⟩ vx1 v01 co1 cs1
                have hgl : g.length = 910 := k0.1.trans hf
                refine ⟨cst0, lvE, _, ρ, Nat.le_refl _, agr2.rf, fun ρ' ha => ⟨(hr ρ' ha).1, (hr ρ' ha).2.1, (hr ρ' ha).2.2.1, ?_, ?_⟩, fun ρ' ha p hq => ?_, ?_, fun cca ccb hk => k4 cca ccb hk⟩
                · intro q hq
                  rcases List.mem_cons.mp hq with rfl | hq
                  · exact ⟨_, k2, 240, rfl, by rw [ev_k]; rfl⟩
                  · obtain ⟨m1, m2, m3⟩ := alDel_sub q hq
                    obtain ⟨n1, n2, n3⟩ := alDel_sub q m1
                    obtain ⟨w, w1, w2⟩ := (hr ρ' ha).2.2.2.1 q n1
                    refine ⟨w, k1 q.1 w m2 n2 w1 ?_, w2⟩
                    by_cases hj : q.1 + 1 = x
                    · left
                      rw [catA_ok w2]
                      exact m3 hj
                    · by_cases hj2 : q.1 + 1 = y
                      · left
                        rw [catA_ok w2]
                        exact n3 hj2
                      · exact Or.inr ⟨hj, hj2⟩
                · obtain ⟨w1, w2, w3, w4, w5⟩ := hr ρ' ha
                  obtain ⟨cs', x1, x2⟩ := rel2_get w5 hAs
                  rw [cs1] at x1
                  cases x1
                  obtain ⟨f', y1', y2'⟩ := crI_inv (by decide) x2
                  cases y1'
                  refine rel2_set w5 (arel_mk (by decide) ?_)
                  have e1 : g.take 200 = f.take 200 := List.ext_getElem? fun i => by
                    rw [List.getElem?_take, List.getElem?_take]
                    by_cases hi : i < 200
                    · rw [if_pos hi, if_pos hi, k0.2, if_neg (by omega), if_neg (by omega)]
                    · rw [if_neg hi, if_neg hi]
                  have e3 : g.drop 680 = f.drop 680 := List.ext_getElem? fun i => by
                    rw [List.getElem?_drop, List.getElem?_drop, k0.2, if_neg (by omega), if_neg (by omega)]
                  have eg : g = g.take 200 ++ ((g.drop 200).take 480 ++ g.drop 680) := by
                    have q1 : g.drop 200 = (g.drop 200).take 480 ++ (g.drop 200).drop 480 := (List.take_append_drop _ _).symm
                    rw [List.drop_drop] at q1
                    rw [← q1, List.take_append_drop]
                  rw [eg, e1, e3]
                  exact srel_app (sgSplit_ok y2' hs1).1 ⟨_, _, rfl, by rw [List.length_take, List.length_drop]; omega, fun z _ => in32 z, (sgSplit_ok y2' hs3).2⟩
                · rcases List.mem_append.mp hq with hq | hq
                  · exact prSw_ok (hp ρ' ha) cs1 hf k0 p hq
                  · rcases List.mem_append.mp hq with hq | hq
                    · exact sw9_ok (hp ρ' ha) cs1 hf k0 p hq
                    · rcases List.mem_append.mp hq with hq | hq
                      · exact sw17_ok (hp ρ' ha) cs1 hf k0 p hq
                      · exact prOk_set (hp ρ' ha) qs _ p hq
                · rw [List.length_set]
                  exact k3 _ hlv
              · cases hk
          · cases hk
        · cases hk
      · cases hk
    · cases hk
