/-! ===== macro: a program of the class copied: four rows up to its size ===== -/
noncomputable def tA1 (_ : Nat) (e : XE) : Bool := match e with
  | (.aload_n k, _, 0, _, _) => Nat.beq k.val 1
  | _ => false
noncomputable def tZ (_ : Nat) (e : XE) : Bool := match e with
  | (.iconst n, _, 0, _, _) => decide (Int32.ofInt n = 0)
  | _ => false
noncomputable def tAc (_ : Nat) (e : XE) : Bool := match e with
  | (.invokestatic _, _, 4, _, _) => true
  | _ => false
section MAC4
variable {ini : Bool} {o nL : Nat} {tb : List (List (Option XE))} {d : Nat} {Q : Res → Prop} {pc : Nat} {e : XE} {st : List Value} {lv : LV} {σ : SH} {ca cb : Nat}
theorem m_a1 {q : Nat} (hg : tbGet tb pc = some e) (h : tA1 pc e = true) (hx : lvGet lv 1 = some (.ref q)) (k : Good none ini o nL tb d Q (pc + e.2.1, .ref q :: st, lv, σ, ca, cb)) : Good none ini o nL tb d Q (pc, st, lv, σ, ca, cb) := by
  refine Good.step ?_ k
  unfold tA1 at h
  split at h
  · rename_i k0 _ _ _
    have e1 : (k0 : Nat) = 1 := Nat.eq_of_beq_eq_true h
    simp only [nxt, hg, stepA, ldA, e1, hx, Option.map_some]
  · cases h
theorem m_z (hg : tbGet tb pc = some e) (h : tZ pc e = true) (k : Good none ini o nL tb d Q (pc + e.2.1, .int 0 :: st, lv, σ, ca, cb)) : Good none ini o nL tb d Q (pc, st, lv, σ, ca, cb) := by
  refine Good.step ?_ k
  unfold tZ at h
  split at h
  · have e1 := of_decide_eq_true h
    simp only [nxt, hg, stepA, e1, Option.map_some]
  · cases h
theorem m_ac {q0 q1 : Nat} {f g : List Int32} {n : Int32} (hg : tbGet tb pc = some e) (h : tAc pc e = true) (h0 : σ[q0]? = some (.inr (0, .inl f))) (h1 : σ[q1]? = some (.inr (0, .inl g))) (hn : 0 ≤ n) (hf : n.toNatClampNeg ≤ f.length) (hgl : n.toNatClampNeg ≤ g.length) (k : Good none ini o nL tb d Q (pc + e.2.1, [], lv, σ.set q1 (.inr (0, .inl (cpyL f g 0 0 n.toNatClampNeg))), ca, cb)) : Good none ini o nL tb d Q (pc, [.int n, .int 0, .ref q1, .int 0, .ref q0], lv, σ, ca, cb) := by
  refine Good.step ?_ k
  unfold tAc at h
  split at h
  · have hz : (0 : Int32).toNatClampNeg = 0 := rfl
    have hc : ((0 = 0 : Prop) ∧ ((0 : Nat) = 0 ∨ (0 : Nat) = 2)) ∧ ((0 : Int32) ≤ 0 ∧ (0 : Int32) ≤ 0 ∧ 0 ≤ n) ∧ ((0 : Int32).toNatClampNeg + n.toNatClampNeg ≤ f.length ∧ (0 : Int32).toNatClampNeg + n.toNatClampNeg ≤ g.length) ∧ (f.all (fun x => fits (kty 0) (.int x)) = true ∧ (([] : List Value).map fun v => v.category).sum ≤ 8) := by
      refine ⟨⟨rfl, Or.inl rfl⟩, ⟨Int32.le_refl _, Int32.le_refl _, hn⟩, ⟨by rw [hz, Nat.zero_add]; exact hf, by rw [hz, Nat.zero_add]; exact hgl⟩, List.all_eq_true.mpr fun x _ => rfl, by decide⟩
    simp only [nxt, hg, stepE, h0, h1]
    rw [if_pos ⟨⟨trivial, Or.inl trivial⟩, hc.2⟩]
    rfl
  · cases h
noncomputable def blkTs (ci j zf : Nat) : List (Nat → XE → Bool) := [tA1, tGf ci j, tZ, tA0, tGf ci j, tZ, tA0, tGf ci zf, tAc]
theorem m_blk {ci j zf pc : Nat} {r : List (Nat → XE → Bool)} (hw : walk tb pc (blkTs ci j zf ++ r) = true) : ∃ pc', walk tb pc' r = true ∧ ∀ (lv : LV) (σ : SH) (ca cb q1 q2 dd ss : Nat) (fl1 fl2 : List Value) (f g : List Int32) (n : Int32), lvGet lv 0 = some (.ref q1) → lvGet lv 1 = some (.ref q2) → σ[q1]? = some (.inl (ci, fl1)) → σ[q2]? = some (.inl (ci, fl2)) → fl1[j]? = some (.ref dd) → fl2[j]? = some (.ref ss) → fl1[zf]? = some (.int n) → 0 ≤ n → n.toNatClampNeg ≤ f.length → n.toNatClampNeg ≤ g.length → σ[ss]? = some (.inr (0, .inl f)) → σ[dd]? = some (.inr (0, .inl g)) → Good none ini o nL tb d Q (pc', [], lv, σ.set dd (.inr (0, .inl (cpyL f g 0 0 n.toNatClampNeg))), ca, cb) → Good none ini o nL tb d Q (pc, [], lv, σ, ca, cb) := by
  obtain ⟨e0, a0, b0, hw⟩ := walk_cons hw
  obtain ⟨e1, a1, b1, hw⟩ := walk_cons hw
  obtain ⟨e2, a2, b2, hw⟩ := walk_cons hw
  obtain ⟨e3, a3, b3, hw⟩ := walk_cons hw
  obtain ⟨e4, a4, b4, hw⟩ := walk_cons hw
  obtain ⟨e5, a5, b5, hw⟩ := walk_cons hw
  obtain ⟨e6, a6, b6, hw⟩ := walk_cons hw
  obtain ⟨e7, a7, b7, hw⟩ := walk_cons hw
  obtain ⟨e8, a8, b8, hw⟩ := walk_cons hw
  refine ⟨_, hw, fun lv σ ca cb q1 q2 dd ss fl1 fl2 f g n h0 h1 o1 o2 hd hs hz n0 nf ng hf hg k => ?_⟩
  exact m_a1 a0 b0 h1 (m_gf a1 b1 o2 hs (m_z a2 b2 (m_a0 a3 b3 h0 (m_gf a4 b4 o1 hd (m_z a5 b5 (m_a0 a6 b6 h0 (m_gf a7 b7 o1 hz (m_ac a8 b8 hf hg n0 nf ng k))))))))
end MAC4
theorem gI_c0 {f g : List Int32} {n i : Nat} (h1 : n ≤ f.length) (h2 : n ≤ g.length) : gI (cpyL f g 0 0 n) i = if i < n then gI f i else gI g i := by
  unfold gI
  rw [List.getD_eq_getElem?_getD, cpyL_get (by omega) (by omega), if_neg (Nat.not_lt_zero i), Nat.zero_add]
  by_cases hi : i < n
  · rw [if_pos hi, if_pos hi, List.getD_eq_getElem?_getD, Nat.zero_add, Nat.sub_zero]
  · rw [if_neg hi, if_neg hi, List.getD_eq_getElem?_getD]
theorem okProg_cpy {t a b c t' a' b' c' : List Int32} {n : Nat} (hn : n ≤ 60) (h : okProg t a b c) (h' : okProg t' a' b' c') : okProg (cpyL t t' 0 0 n) (cpyL a a' 0 0 n) (cpyL b b' 0 0 n) (cpyL c c' 0 0 n) := by
  obtain ⟨⟨l1, l2, l3, l4⟩, hr⟩ := h
  obtain ⟨⟨l1', l2', l3', l4'⟩, hr'⟩ := h'
  refine ⟨⟨?_, ?_, ?_, ?_⟩, fun i hi => ?_⟩
  · rw [cpyL_len (by omega) (by omega)]; exact l1'
  · rw [cpyL_len (by omega) (by omega)]; exact l2'
  · rw [cpyL_len (by omega) (by omega)]; exact l3'
  · rw [cpyL_len (by omega) (by omega)]; exact l4'
  · rw [gI_c0 (by omega) (by omega), gI_c0 (by omega) (by omega), gI_c0 (by omega) (by omega), gI_c0 (by omega) (by omega)]
    by_cases hin : i < n
    · rw [if_pos hin, if_pos hin, if_pos hin, if_pos hin]
      exact hr i hi
    · rw [if_neg hin, if_neg hin, if_neg hin, if_neg hin]
      exact hr' i hi
noncomputable def any60 : AC := .inr (0, .inl [.inr (60, lo32, hi32)])
noncomputable def hasQ (l : List Nat) (pr : List PD) : Bool := pr.any (fun p => decide (p = (0, l, [])))
theorem hasQ_ok {l : List Nat} {pr : List PD} (h : hasQ l pr = true) : (0, l, []) ∈ pr := by
  obtain ⟨p, h1, h2⟩ := List.any_eq_true.mp h
  rw [← of_decide_eq_true h2]
  exact h1
noncomputable def isRowA (A : AH) (q : Nat) : Bool := match A[q]? with
  | some (.inr (k, .inl _)) => bif Nat.beq k 0 then true else Nat.beq k 100
  | _ => false
/-- the seal of a copied program, where it is that of all its steps -/
noncomputable def cp8 (tab : Tb) (fs : List Ln) (e : Ln) (s1 s2 s3 s4 d1 d2 d3 d4 : Nat) (p : PD) : Option PD := match p.2.1, p.2.2 with
  | [a, b, c, d], [n, t] => bif Nat.beq p.1 8 then (bif (bif Nat.beq a s1 then (bif Nat.beq b s2 then (bif Nat.beq c s3 then Nat.beq d s4 else false) else false) else false) then (bif eqL tab fs n e then some (8, [d1, d2, d3, d4], [n, t]) else none) else none) else none
  | _, _ => none
theorem pn8 {ρ : Nat → Int} {cσ : SH} {pr : List PD} {a b c d : Nat} {n s : Ln} (h : prOk PPk ρ cσ pr) (hm : (8, [a, b, c, d], [n, s]) ∈ pr) : okSlC (arrI (cσ.getD a (.inl (0, [])))) (arrI (cσ.getD b (.inl (0, [])))) (arrI (cσ.getD c (.inl (0, [])))) (arrI (cσ.getD d (.inl (0, [])))) (ev ρ n) (ev ρ s) := (show PPn 8 [arrI (cσ.getD a (.inl (0, []))), arrI (cσ.getD b (.inl (0, []))), arrI (cσ.getD c (.inl (0, []))), arrI (cσ.getD d (.inl (0, [])))] [ev ρ n, ev ρ s] from h _ hm).2
theorem crO_get {ρ : Nat → Int} {σ : SH} {A : AH} (h : rel2 (crel ρ) σ A) {q c c' : Nat} {as : List AV} {fl : List Value} (hA : A[q]? = some (.inl (c, as))) (hs : σ[q]? = some (.inl (c', fl))) : rel2 (vrel ρ) fl as := by
  obtain ⟨co, e1, e2⟩ := rel2_get h hA
  obtain ⟨fl', e3, e4⟩ := crO_inv e2
  subst e3
  rw [hs] at e1
  cases e1
  exact e4
theorem cp8_inv {tab : Tb} {fs : List Ln} {e : Ln} {s1 s2 s3 s4 d1 d2 d3 d4 : Nat} {p p' : PD} (h : cp8 tab fs e s1 s2 s3 s4 d1 d2 d3 d4 p = some p') : ∃ n t, p = (8, [s1, s2, s3, s4], [n, t]) ∧ p' = (8, [d1, d2, d3, d4], [n, t]) ∧ eqL tab fs n e = true := by
  unfold cp8 at h
  split at h
  · rename_i a b c d n t h1 h2
    obtain ⟨k0, l0, ns0⟩ := p
    try dsimp only at h1 h2 h
    subst h1; subst h2
    cases z0 : Nat.beq k0 8 with
    | false => rw [z0] at h; cases h
    | true =>
      rw [z0, cond_true] at h
      have ek := Nat.eq_of_beq_eq_true z0
      subst ek
      cases z : (bif Nat.beq a s1 then (bif Nat.beq b s2 then (bif Nat.beq c s3 then Nat.beq d s4 else false) else false) else false) with
      | false => rw [z] at h; cases h
      | true =>
        rw [z, cond_true] at h
        obtain ⟨y1, z⟩ := cand z
        obtain ⟨y2, z⟩ := cand z
        obtain ⟨y3, y4⟩ := cand z
        cases w : eqL tab fs n e with
        | false => rw [w] at h; cases h
        | true =>
          rw [w] at h
          cases h
          exact ⟨n, t, by rw [Nat.eq_of_beq_eq_true y1, Nat.eq_of_beq_eq_true y2, Nat.eq_of_beq_eq_true y3, Nat.eq_of_beq_eq_true y4], rfl, w⟩
  · cases h
noncomputable def tAt (ex : Nat) (pc : Nat) (_ : XE) : Bool := decide (pc = ex)
noncomputable def mProg (H ci f zf ex : Nat) : MC := fun _ tb pc st lv A pr nx tab fs => bif Nat.beq pc H then (bif walk tb H (blkTs ci f zf ++ (blkTs ci (f + 1) zf ++ (blkTs ci (f + 2) zf ++ (blkTs ci (f + 3) zf ++ [tAt ex])))) then (match st, alGet 0 lv, alGet 1 lv with
  | [], some (.inr (.inl (some q1))), some (.inr (.inl (some q2))) => (match A[q1]?, A[q2]? with
    | some (.inl (c1, as1)), some (.inl (c2, as2)) => (match refAt as1 f, refAt as1 (f + 1), refAt as1 (f + 2), refAt as1 (f + 3), refAt as2 f, refAt as2 (f + 1), refAt as2 (f + 2), refAt as2 (f + 3), as1[zf]? with
      | some d1, some d2, some d3, some d4, some s1, some s2, some s3, some s4, some (.inl (false, e)) => bif (bif Nat.beq c1 ci then (bif Nat.beq c2 ci then (bif va_nd [d1, d2, d3, d4, s1, s2, s3, s4] then (bif isRowA A d1 && (isRowA A d2 && (isRowA A d3 && (isRowA A d4 && (isRowA A s1 && (isRowA A s2 && (isRowA A s3 && isRowA A s4)))))) then (bif hasQ [d1, d2, d3, d4] pr then (bif hasQ [s1, s2, s3, s4] pr then inF tab fs 0 60 e else false) else false) else false) else false) else false) else false) then some (ex, st, lv, (((A.set d1 any60).set d2 any60).set d3 any60).set d4 any60, (0, [d1, d2, d3, d4], []) :: pr.filterMap (cp8 tab fs e s1 s2 s3 s4 d1 d2 d3 d4) ++ prDel d4 (prDel d3 (prDel d2 (prDel d1 pr))), nx, tab, fs) else none
      | _, _, _, _, _, _, _, _, _ => none)
    | _, _ => none)
  | _, _, _ => none) else none) else none
theorem isRowA_ok {ρ : Nat → Int} {σ : SH} {A : AH} (hA : rel2 (crel ρ) σ A) {q : Nat} (h : isRowA A q = true) : ∃ l, σ[q]? = some (.inr (0, .inl l)) := by
  unfold isRowA at h
  split at h
  · rename_i k s hq
    obtain ⟨c, c1, c2⟩ := rel2_get hA hq
    cases z : Nat.beq k 0 with
    | true =>
      have e := Nat.eq_of_beq_eq_true z
      subst e
      obtain ⟨l, e1, -⟩ := crI_inv (by decide) c2
      exact ⟨l, by rw [c1, e1]⟩
    | false =>
      rw [z] at h
      have e := Nat.eq_of_beq_eq_true h
      subst e
      obtain ⟨l, e1, -⟩ := arel_con (by decide) c2
      exact ⟨l, by rw [c1, e1]⟩
  · cases h
theorem any60_ok {ρ : Nat → Int} {l : List Int32} (h : l.length = 60) : crel ρ (.inr (0, .inl l)) any60 :=
  arel_mk (by decide) ⟨l, [], by rw [List.append_nil], h, fun x _ => in32 x, rfl⟩
set_option maxHeartbeats 2000000 in
theorem mProg_ok (H ci f zf ex : Nat) : McOk PPk (mProg H ci f zf ex) := by
  intro ini o nL tb d Q pc st lv A pr nx tab fs pc' st' lv' A' pr' nx' tab' fs' ρ cst0 clv cσ h hr hp hlv
  unfold mProg at h
  cases z0 : Nat.beq pc H with
  | false => rw [z0] at h; cases h
  | true =>
    rw [z0] at h
    have epc := Nat.eq_of_beq_eq_true z0
    subst epc
    simp only [cond_true] at h
    cases hw : walk tb pc (blkTs ci f zf ++ (blkTs ci (f + 1) zf ++ (blkTs ci (f + 2) zf ++ (blkTs ci (f + 3) zf ++ [tAt ex])))) with
    | false => rw [hw] at h; cases h
    | true =>
      rw [hw] at h
      simp only [cond_true] at h
      split at h
      · rename_i q1 q2 h0 h1
        split at h
        · rename_i c1 as1 c2 as2 hA1 hA2
          split at h
          · rename_i d1 d2 d3 d4 s1 s2 s3 s4 e hd1 hd2 hd3 hd4 hs1 hs2 hs3 hs4 hz
            cases z : (bif Nat.beq c1 ci then (bif Nat.beq c2 ci then (bif va_nd [d1, d2, d3, d4, s1, s2, s3, s4] then (bif isRowA A d1 && (isRowA A d2 && (isRowA A d3 && (isRowA A d4 && (isRowA A s1 && (isRowA A s2 && (isRowA A s3 && isRowA A s4)))))) then (bif hasQ [d1, d2, d3, d4] pr then (bif hasQ [s1, s2, s3, s4] pr then inF tab fs 0 60 e else false) else false) else false) else false) else false) else false) with
            | false => rw [z] at h; cases h
            | true =>
              rw [z] at h
              cases h
              obtain ⟨z1, z⟩ := cand z
              obtain ⟨z2, z⟩ := cand z
              obtain ⟨z3, z⟩ := cand z
              obtain ⟨z4, z⟩ := cand z
              obtain ⟨z5, z⟩ := cand z
              obtain ⟨z6, z7⟩ := cand z
              have ec1 := Nat.eq_of_beq_eq_true z1
              have ec2 := Nat.eq_of_beq_eq_true z2
              subst ec1; subst ec2
              simp only [Bool.and_eq_true] at z4
              obtain ⟨w1, w2, w3, w4, w5, w6, w7, w8⟩ := z4
              obtain ⟨t1, t2, t3, t4, t5⟩ := hr ρ agr2.rf
              have hst : cst0 = [] := rel2_nil t3
              subst hst
              obtain ⟨v0, v01, v02⟩ := lvR_get t4 h0
              have e0 := vR_inv v02
              subst e0
              obtain ⟨v1, v11, v12⟩ := lvR_get t4 h1
              have e1 := vR_inv v12
              subst e1
              obtain ⟨co, co1, co2⟩ := rel2_get t5 hA1
              obtain ⟨fl1, co3, co4⟩ := crO_inv co2
              subst co3
              obtain ⟨cp, cp1, cp2⟩ := rel2_get t5 hA2
              obtain ⟨fl2, cp3, cp4⟩ := crO_inv cp2
              subst cp3
              obtain ⟨g1, x1⟩ := isRowA_ok t5 w1
              obtain ⟨g2, x2⟩ := isRowA_ok t5 w2
              obtain ⟨g3, x3⟩ := isRowA_ok t5 w3
              obtain ⟨g4, x4⟩ := isRowA_ok t5 w4
              obtain ⟨f1, y1⟩ := isRowA_ok t5 w5
              obtain ⟨f2, y2⟩ := isRowA_ok t5 w6
              obtain ⟨f3, y3⟩ := isRowA_ok t5 w7
              obtain ⟨f4, y4⟩ := isRowA_ok t5 w8
              obtain ⟨vz, vz1, vz2⟩ := rel2_get co4 hz
              obtain ⟨n, en1, en2⟩ := vI_inv vz2
              subst en1
              have hn := inF_ok t1 t2 z7
              rw [← en2] at hn
              have hn0 : (0 : Int32) ≤ n := by rw [Int32.le_iff_toInt_le]; exact hn.1
              have hcl : n.toNatClampNeg ≤ 60 := by
                have : n.toNatClampNeg = n.toInt.toNat := rfl
                rw [this]
                have := hn.2
                omega
              have nd : ∀ (i j a b : Nat), i ≠ j → [d1, d2, d3, d4, s1, s2, s3, s4][i]? = some a → [d1, d2, d3, d4, s1, s2, s3, s4][j]? = some b → a ≠ b := fun i j a b hij ha hb e => hij (va_nd_inj _ z3 i j a ha (e ▸ hb))
              have n12 := nd 0 1 d1 d2 (by decide) rfl rfl
              have n13 := nd 0 2 d1 d3 (by decide) rfl rfl
              have n14 := nd 0 3 d1 d4 (by decide) rfl rfl
              have n23 := nd 1 2 d2 d3 (by decide) rfl rfl
              have n24 := nd 1 3 d2 d4 (by decide) rfl rfl
              have n34 := nd 2 3 d3 d4 (by decide) rfl rfl
              have m12 := nd 0 5 d1 s2 (by decide) rfl rfl
              have m13 := nd 0 6 d1 s3 (by decide) rfl rfl
              have m14 := nd 0 7 d1 s4 (by decide) rfl rfl
              have m23 := nd 1 6 d2 s3 (by decide) rfl rfl
              have m24 := nd 1 7 d2 s4 (by decide) rfl rfl
              have m34 := nd 2 7 d3 s4 (by decide) rfl rfl
              have no : ∀ (q r : Nat) (l : List Int32) (c : Nat) (fl : List Value), cσ[q]? = some (.inr (0, .inl l)) → cσ[r]? = some (.inl (c, fl)) → q ≠ r := fun q r l c fl h1 h2 e => by
                subst e
                rw [h1] at h2
                cases h2
              have aD : ∀ {q : Nat} {l : List Int32}, cσ[q]? = some (.inr (0, .inl l)) → arrI (cσ.getD q (.inl (0, []))) = l := fun h => by
                rw [List.getD_eq_getElem?_getD, h]
                rfl
              have pd : okProg (arrI (cσ.getD d1 (.inl (0, [])))) (arrI (cσ.getD d2 (.inl (0, [])))) (arrI (cσ.getD d3 (.inl (0, [])))) (arrI (cσ.getD d4 (.inl (0, [])))) := hp ρ agr2.rf _ (hasQ_ok z5)
              have ps : okProg (arrI (cσ.getD s1 (.inl (0, [])))) (arrI (cσ.getD s2 (.inl (0, [])))) (arrI (cσ.getD s3 (.inl (0, [])))) (arrI (cσ.getD s4 (.inl (0, [])))) := hp ρ agr2.rf _ (hasQ_ok z6)
              rw [aD x1, aD x2, aD x3, aD x4] at pd
              rw [aD y1, aD y2, aD y3, aD y4] at ps
              obtain ⟨⟨ld1, ld2, ld3, ld4⟩, -⟩ := id pd
              obtain ⟨⟨ls1, ls2, ls3, ls4⟩, -⟩ := id ps
              let N := n.toNatClampNeg
              let σ1 := cσ.set d1 (.inr (0, .inl (cpyL f1 g1 0 0 N)))
              let σ2 := σ1.set d2 (.inr (0, .inl (cpyL f2 g2 0 0 N)))
              let σ3 := σ2.set d3 (.inr (0, .inl (cpyL f3 g3 0 0 N)))
              let σ4 := σ3.set d4 (.inr (0, .inl (cpyL f4 g4 0 0 N)))
              have r1 : ∀ q, d1 ≠ q → σ1[q]? = cσ[q]? := fun q hq => List.getElem?_set_ne hq
              have r2 : ∀ q, d1 ≠ q → d2 ≠ q → σ2[q]? = cσ[q]? := fun q hq hq2 => (List.getElem?_set_ne hq2).trans (r1 q hq)
              have r3 : ∀ q, d1 ≠ q → d2 ≠ q → d3 ≠ q → σ3[q]? = cσ[q]? := fun q hq hq2 hq3 => (List.getElem?_set_ne hq3).trans (r2 q hq hq2)
              have a1 := no d1 _ _ _ _ x1 co1
              have a2 := no d2 _ _ _ _ x2 co1
              have a3 := no d3 _ _ _ _ x3 co1
              have b1 := no d1 _ _ _ _ x1 cp1
              have b2 := no d2 _ _ _ _ x2 cp1
              have b3 := no d3 _ _ _ _ x3 cp1
              obtain ⟨pc1, hw, k1⟩ := m_blk (ini := ini) (o := o) (nL := nL) (d := d) (Q := Q) hw
              obtain ⟨pc2, hw, k2⟩ := m_blk (ini := ini) (o := o) (nL := nL) (d := d) (Q := Q) hw
              obtain ⟨pc3, hw, k3⟩ := m_blk (ini := ini) (o := o) (nL := nL) (d := d) (Q := Q) hw
              obtain ⟨pc4, hw, k4⟩ := m_blk (ini := ini) (o := o) (nL := nL) (d := d) (Q := Q) hw
              obtain ⟨ee, -, hex, -⟩ := walk_cons hw
              have hex' := of_decide_eq_true hex
              subst hex'
              have L1 : d1 < cσ.length := (List.getElem?_eq_some_iff.mp x1).1
              have L2 : d2 < cσ.length := (List.getElem?_eq_some_iff.mp x2).1
              have L3 : d3 < cσ.length := (List.getElem?_eq_some_iff.mp x3).1
              have L4 : d4 < cσ.length := (List.getElem?_eq_some_iff.mp x4).1
              have len1 : σ1.length = cσ.length := List.length_set
              have len2 : σ2.length = cσ.length := List.length_set.trans len1
              have len3 : σ3.length = cσ.length := List.length_set.trans len2
              have len4 : σ4.length = cσ.length := List.length_set.trans len3
              have hcy : ∀ {f g : List Int32}, f.length = 60 → g.length = 60 → (cpyL f g 0 0 N).length = 60 := fun {f g} hf hg => by
                rw [cpyL_len (by omega) (by omega)]
                exact hg
              refine ⟨[], clv, σ4, ρ, Nat.le_refl _, agr2.rf, fun ρ' ha => ⟨(hr ρ' ha).1, (hr ρ' ha).2.1, trivial, (hr ρ' ha).2.2.2.1, ?_⟩, fun ρ' ha => ?_, by rw [len4]; exact hlv, fun cca ccb hk => ?_⟩
              · exact rel2_set (rel2_set (rel2_set (rel2_set (hr ρ' ha).2.2.2.2 (any60_ok (hcy ls1 ld1))) (any60_ok (hcy ls2 ld2))) (any60_ok (hcy ls3 ld3))) (any60_ok (hcy ls4 ld4))
              · have hp8 : prOk PPk ρ' σ4 (prDel d4 (prDel d3 (prDel d2 (prDel d1 pr)))) := prOk_set (prOk_set (prOk_set (prOk_set (hp ρ' ha) d1 _) d2 _) d3 _) d4 _
                have q4 : arrI (σ4.getD d4 (.inl (0, []))) = cpyL f4 g4 0 0 N := by
                  rw [List.getD_eq_getElem?_getD, show σ4[d4]? = _ from List.getElem?_set_self (by rw [len3]; exact L4)]
                  rfl
                have q3 : arrI (σ4.getD d3 (.inl (0, []))) = cpyL f3 g3 0 0 N := by
                  rw [List.getD_eq_getElem?_getD, show σ4[d3]? = σ3[d3]? from List.getElem?_set_ne (fun e => n34 e.symm), show σ3[d3]? = _ from List.getElem?_set_self (by rw [len2]; exact L3)]
                  rfl
                have q2 : arrI (σ4.getD d2 (.inl (0, []))) = cpyL f2 g2 0 0 N := by
                  rw [List.getD_eq_getElem?_getD, show σ4[d2]? = σ3[d2]? from List.getElem?_set_ne (fun e => n24 e.symm), show σ3[d2]? = σ2[d2]? from List.getElem?_set_ne (fun e => n23 e.symm), show σ2[d2]? = _ from List.getElem?_set_self (by rw [len1]; exact L2)]
                  rfl
                have q1 : arrI (σ4.getD d1 (.inl (0, []))) = cpyL f1 g1 0 0 N := by
                  rw [List.getD_eq_getElem?_getD, show σ4[d1]? = σ3[d1]? from List.getElem?_set_ne (fun e => n14 e.symm), show σ3[d1]? = σ2[d1]? from List.getElem?_set_ne (fun e => n13 e.symm), show σ2[d1]? = σ1[d1]? from List.getElem?_set_ne (fun e => n12 e.symm), show σ1[d1]? = _ from List.getElem?_set_self L1]
                  rfl
                refine fun p hq => (List.mem_append.mp hq).elim (fun hq => ?_) (hp8 p)
                rcases List.mem_cons.mp hq with rfl | hq
                · show okProg (arrI (σ4.getD d1 (.inl (0, [])))) (arrI (σ4.getD d2 (.inl (0, [])))) (arrI (σ4.getD d3 (.inl (0, [])))) (arrI (σ4.getD d4 (.inl (0, []))))
                  rw [q1, q2, q3, q4]
                  exact okProg_cpy hcl ps pd
                · obtain ⟨p0, hm, hc⟩ := List.mem_filterMap.mp hq
                  obtain ⟨n', t', rfl, rfl, hev⟩ := cp8_inv hc
                  obtain ⟨m, m1, m2, m3, m4⟩ := pn8 (hp ρ' ha) hm
                  rw [aD y1, aD y2, aD y3, aD y4] at m4
                  have hnN : m = N := by
                    have e1 := eqL_ok (hr ρ' ha).1 (hr ρ' ha).2.1 hev
                    obtain ⟨vz', vz1', vz2'⟩ := rel2_get (crO_get (hr ρ' ha).2.2.2.2 hA1 co1) hz
                    rw [vz1] at vz1'
                    cases vz1'
                    obtain ⟨x', ex1, ex2⟩ := vI_inv vz2'
                    cases ex1
                    have : N = n.toInt.toNat := rfl
                    omega
                  show PPn 8 [arrI (σ4.getD d1 (.inl (0, []))), arrI (σ4.getD d2 (.inl (0, []))), arrI (σ4.getD d3 (.inl (0, []))), arrI (σ4.getD d4 (.inl (0, [])))] [ev ρ' n', ev ρ' t']
                  rw [q1, q2, q3, q4]
                  refine (show 8 = 8 ∧ okSlC _ _ _ _ _ _ from ⟨rfl, m, m1, m2, ⟨?_, ?_, ?_, ?_⟩, ?_⟩)
                  · rw [hcy ls1 ld1]; exact m2
                  · rw [hcy ls2 ld2]; exact m2
                  · rw [hcy ls3 ld3]; exact m2
                  · rw [hcy ls4 ld4]; exact m2
                  · rw [m4]
                    refine (pC_eq m fun j hj => ?_).symm
                    have hN : N ≤ 60 := hcl
                    rw [gI_c0 (by omega) (by omega), gI_c0 (by omega) (by omega), gI_c0 (by omega) (by omega), gI_c0 (by omega) (by omega), if_pos (by omega), if_pos (by omega), if_pos (by omega), if_pos (by omega)]
                    exact ⟨rfl, rfl, rfl, rfl⟩
              · have F1 := refAt_ok co4 hd1
                have F2 := refAt_ok co4 hd2
                have F3 := refAt_ok co4 hd3
                have F4 := refAt_ok co4 hd4
                have S1 := refAt_ok cp4 hs1
                have S2 := refAt_ok cp4 hs2
                have S3 := refAt_ok cp4 hs3
                have S4 := refAt_ok cp4 hs4
                refine k1 clv cσ cca ccb q1 q2 d1 s1 fl1 fl2 f1 g1 n v01 v11 co1 cp1 F1 S1 vz1 hn0 (by omega) (by omega) y1 x1 ?_
                refine k2 clv σ1 cca ccb q1 q2 d2 s2 fl1 fl2 f2 g2 n v01 v11 (by rw [r1 _ a1]; exact co1) (by rw [r1 _ b1]; exact cp1) F2 S2 vz1 hn0 (by omega) (by omega) (by rw [r1 _ m12]; exact y2) (by rw [r1 _ n12]; exact x2) ?_
                refine k3 clv σ2 cca ccb q1 q2 d3 s3 fl1 fl2 f3 g3 n v01 v11 (by rw [r2 _ a1 a2]; exact co1) (by rw [r2 _ b1 b2]; exact cp1) F3 S3 vz1 hn0 (by omega) (by omega) (by rw [r2 _ m13 m23]; exact y3) (by rw [r2 _ n13 n23]; exact x3) ?_
                exact k4 clv σ3 cca ccb q1 q2 d4 s4 fl1 fl2 f4 g4 n v01 v11 (by rw [r3 _ a1 a2 a3]; exact co1) (by rw [r3 _ b1 b2 b3]; exact cp1) F4 S4 vz1 hn0 (by omega) (by omega) (by rw [r3 _ m14 m24 m34]; exact y4) (by rw [r3 _ n14 n24 n34]; exact x4) hk
          · cases h
        · cases h
      · cases h
/-! ===== macros: the seal of a program, of the class's rows and of the model's row ===== -/
noncomputable def tBi (c : Nat) (_ : Nat) (e : XE) : Bool := match e with
  | (.bipush n, _, 0, _, _) => decide ((Int8.ofInt n).toInt32 = Int32.ofNat c)
  | _ => false
noncomputable def tIc (c : Nat) (_ : Nat) (e : XE) : Bool := match e with
  | (.iconst n, _, 0, _, _) => decide (Int32.ofInt n = Int32.ofNat c)
  | _ => false
section MAC5
variable {ini : Bool} {o nL : Nat} {tb : List (List (Option XE))} {d : Nat} {Q : Res → Prop} {pc : Nat} {e : XE} {st : List Value} {lv : LV} {σ : SH} {ca cb : Nat}
theorem m_bi {c : Nat} (hg : tbGet tb pc = some e) (h : tBi c pc e = true) (k : Good none ini o nL tb d Q (pc + e.2.1, .int (Int32.ofNat c) :: st, lv, σ, ca, cb)) : Good none ini o nL tb d Q (pc, st, lv, σ, ca, cb) := by
  refine Good.step ?_ k
  unfold tBi at h
  split at h
  · have e1 := of_decide_eq_true h
    simp only [nxt, hg, stepA, e1, Option.map_some]
  · cases h
theorem m_ic {c : Nat} (hg : tbGet tb pc = some e) (h : tIc c pc e = true) (k : Good none ini o nL tb d Q (pc + e.2.1, .int (Int32.ofNat c) :: st, lv, σ, ca, cb)) : Good none ini o nL tb d Q (pc, st, lv, σ, ca, cb) := by
  refine Good.step ?_ k
  unfold tIc at h
  split at h
  · have e1 := of_decide_eq_true h
    simp only [nxt, hg, stepA, e1, Option.map_some]
  · cases h
noncomputable def sbkTs (ci j i h : Nat) : List (Nat → XE → Bool) := [tBi 31, tLd h, tMul, tA0, tGf ci j, tLd i, tIl, tAdd, tSt h]
theorem inB_of {l : List Int32} {v : Int32} {k : Nat} (hv : v.toInt = k) (hk : k < l.length) (hl : l.length < 2000) : inB v l.length = true ∧ v.toNatClampNeg = k := by
  have hcl : v.toNatClampNeg = k := by
    have : v.toNatClampNeg = v.toInt.toNat := rfl
    rw [this, hv]
    exact Int.toNat_natCast _
  refine ⟨?_, hcl⟩
  unfold inB
  rw [Bool.and_eq_true, decide_eq_true_eq, decide_eq_true_eq, hcl, Int32.le_iff_toInt_le, hv]
  exact ⟨Int.natCast_nonneg _, hk⟩
theorem m_sbk {ci j i h pc : Nat} {r : List (Nat → XE → Bool)} (hw : walk tb pc (sbkTs ci j i h ++ r) = true) (hh : h < nL) : ∃ pc', walk tb pc' r = true ∧ ∀ (st : List Value) (lv : LV) (σ : SH) (ca cb q s : Nat) (fl : List Value) (l : List Int32) (v w : Int32) (k : Nat), lvGet lv h = some (.int w) → lvGet lv i = some (.int v) → lvGet lv 0 = some (.ref q) → σ[q]? = some (.inl (ci, fl)) → fl[j]? = some (.ref s) → σ[s]? = some (.inr (0, .inl l)) → v.toInt = k → k < l.length → l.length < 2000 → Good none ini o nL tb d Q (pc', st, lvSet1 lv h (.int (Int32.ofNat 31 * w + l.getD k 0)), σ, ca, cb) → Good none ini o nL tb d Q (pc, st, lv, σ, ca, cb) := by
  obtain ⟨e0, a0, b0, hw⟩ := walk_cons hw
  obtain ⟨e1, a1, b1, hw⟩ := walk_cons hw
  obtain ⟨e2, a2, b2, hw⟩ := walk_cons hw
  obtain ⟨e3, a3, b3, hw⟩ := walk_cons hw
  obtain ⟨e4, a4, b4, hw⟩ := walk_cons hw
  obtain ⟨e5, a5, b5, hw⟩ := walk_cons hw
  obtain ⟨e6, a6, b6, hw⟩ := walk_cons hw
  obtain ⟨e7, a7, b7, hw⟩ := walk_cons hw
  obtain ⟨e8, a8, b8, hw⟩ := walk_cons hw
  refine ⟨_, hw, fun st lv σ ca cb q s fl l v w k h1 h2 h3 h4 h5 h6 h7 h8 h9 kk => ?_⟩
  obtain ⟨i1, i2⟩ := inB_of h7 h8 h9
  refine m_bi a0 b0 (m_ld a1 b1 h1 (m_mul a2 b2 (m_a0 a3 b3 h3 (m_gf a4 b4 h4 h5 (m_ld a5 b5 h2 (m_il a6 b6 h6 i1 ?_))))))
  rw [i2]
  exact m_add a7 b7 (m_st a8 b8 hh kk)
end MAC5
theorem ofI_gI (l : List Int32) (k : Nat) : l.getD k 0 = Int32.ofInt (gI l k) := (Int32.ofInt_toInt _).symm
theorem ofI_31 : Int32.ofNat 31 = Int32.ofInt 31 := by decide
theorem seal_step (l : List Int32) (k : Nat) (x : Int) : Int32.ofNat 31 * Int32.ofInt x + l.getD k 0 = Int32.ofInt (31 * x + gI l k) := by
  rw [ofI_gI, ofI_31, Int32.ofInt_add, Int32.ofInt_mul]
noncomputable def sealCTs (H X i h ci zf f : Nat) : List (Nat → XE → Bool) := [tLd i, tA0, tGf ci zf, tGe X] ++ (sbkTs ci f i h ++ (sbkTs ci (f + 1) i h ++ (sbkTs ci (f + 2) i h ++ (sbkTs ci (f + 3) i h ++ [tInc i, tGo H]))))
noncomputable def sealCXs (h ci zf ex : Nat) : List (Nat → XE → Bool) := [tBi 31, tLd h, tMul, tA0, tGf ci zf, tAdd, tAt ex]
theorem sealC_loop {ini : Bool} {o nL : Nat} {tb : List (List (Option XE))} {d : Nat} {Q : Res → Prop} {H X i h ci zf f q0 sa sb sc sd N : Nat} {fl : List Value} {t a b c : List Int32} {nv : Int32} {σ : SH} (hw : walk tb H (sealCTs H X i h ci zf f) = true) (hi0 : i ≠ 0) (hh0 : h ≠ 0) (hih : i ≠ h) (hil : i < nL) (hhl : h < nL) (hq0 : σ[q0]? = some (.inl (ci, fl))) (f1 : fl[f]? = some (.ref sa)) (f2 : fl[f + 1]? = some (.ref sb)) (f3 : fl[f + 2]? = some (.ref sc)) (f4 : fl[f + 3]? = some (.ref sd)) (g1 : σ[sa]? = some (.inr (0, .inl t))) (g2 : σ[sb]? = some (.inr (0, .inl a))) (g3 : σ[sc]? = some (.inr (0, .inl b))) (g4 : σ[sd]? = some (.inr (0, .inl c))) (fz : fl[zf]? = some (.int nv)) (hN : nv.toInt = N) (l1 : N ≤ t.length) (l2 : N ≤ a.length) (l3 : N ≤ b.length) (l4 : N ≤ c.length) (k1 : t.length < 2000) (k2 : a.length < 2000) (k3 : b.length < 2000) (k4 : c.length < 2000) : ∀ (n k : Nat) (v : Int32) (lv : LV), n + k = N → v.toInt = k → lvGet lv i = some (.int v) → lvGet lv h = some (.int (Int32.ofInt (pC t a b c k))) → lvGet lv 0 = some (.ref q0) →
    ∃ lvE : LV, lvGet lvE h = some (.int (Int32.ofInt (pC t a b c N))) ∧ lvGet lvE 0 = some (.ref q0) ∧ (∀ m, lvOk m lv → lvOk m lvE) ∧ ∀ ca cb, Good none ini o nL tb d Q (X, [], lvE, σ, ca, cb) → Good none ini o nL tb d Q (H, [], lv, σ, ca, cb) := by
  intro n
  obtain ⟨e0, a0, b0, hw⟩ := walk_cons hw
  obtain ⟨e1, a1, b1, hw⟩ := walk_cons hw
  obtain ⟨e2, a2, b2, hw⟩ := walk_cons hw
  obtain ⟨e3, a3, b3, hw⟩ := walk_cons hw
  obtain ⟨p1, hw, j1⟩ := m_sbk (ini := ini) (o := o) (d := d) (Q := Q) hw hhl
  obtain ⟨p2, hw, j2⟩ := m_sbk (ini := ini) (o := o) (d := d) (Q := Q) hw hhl
  obtain ⟨p3, hw, j3⟩ := m_sbk (ini := ini) (o := o) (d := d) (Q := Q) hw hhl
  obtain ⟨p4, hw, j4⟩ := m_sbk (ini := ini) (o := o) (d := d) (Q := Q) hw hhl
  obtain ⟨e5, a5, b5, hw⟩ := walk_cons hw
  obtain ⟨e6, a6, b6, -⟩ := walk_cons hw
  induction n with
  | zero =>
    intro k v lv hnk hv hx hh h0
    have hk : k = N := by omega
    subst hk
    refine ⟨lv, hh, h0, fun m h => h, fun ca cb kk => m_ld a0 b0 hx (m_a0 a1 b1 h0 (m_gf a2 b2 hq0 fz (m_ge a3 b3 ?_)))⟩
    rw [if_pos (by rw [Int32.le_iff_toInt_le, hv, hN]; exact Int.le_refl _)]
    exact kk
  | succ n ih =>
    intro k v lv hnk hv hx hh h0
    have hv1 : (v + 1).toInt = ((k + 1 : Nat) : Int) := by
      rw [Int32.toInt_add, hv, show (1 : Int32).toInt = 1 by decide, Int.bmod_eq_of_le (by omega) (by omega)]
      rfl
    have cI : ∀ w : Int32, (Value.int w).category ≠ 2 := fun w => (show (1 : Nat) ≠ 2 by decide)
    have cR : ∀ w : Nat, (Value.ref w).category ≠ 2 := fun w => (show (1 : Nat) ≠ 2 by decide)
    let w1 := Int32.ofInt (31 * pC t a b c k + gI t k)
    let w2 := Int32.ofInt (31 * (31 * pC t a b c k + gI t k) + gI a k)
    let w3 := Int32.ofInt (31 * (31 * (31 * pC t a b c k + gI t k) + gI a k) + gI b k)
    let w4 := Int32.ofInt (31 * (31 * (31 * (31 * pC t a b c k + gI t k) + gI a k) + gI b k) + gI c k)
    let lv1 := lvSet1 lv h (.int w1)
    let lv2 := lvSet1 lv1 h (.int w2)
    let lv3 := lvSet1 lv2 h (.int w3)
    let lv4 := lvSet1 lv3 h (.int w4)
    have hp : Int32.ofInt (pC t a b c (k + 1)) = w4 := by
      show Int32.ofInt (923521 * pC t a b c k + 29791 * gI t k + 961 * gI a k + 31 * gI b k + gI c k) = Int32.ofInt _
      congr 1
      omega
    have ne1 : h ≠ i := fun e => hih e.symm
    have x1 : lvGet lv1 i = some (.int v) := lvGet_s1_ne hx ne1 (Or.inl (cI _))
    have x2 : lvGet lv2 i = some (.int v) := lvGet_s1_ne x1 ne1 (Or.inl (cI _))
    have x3 : lvGet lv3 i = some (.int v) := lvGet_s1_ne x2 ne1 (Or.inl (cI _))
    have x4 : lvGet lv4 i = some (.int v) := lvGet_s1_ne x3 ne1 (Or.inl (cI _))
    have z1 : lvGet lv1 0 = some (.ref q0) := lvGet_s1_ne h0 hh0 (Or.inl (cR _))
    have z2 : lvGet lv2 0 = some (.ref q0) := lvGet_s1_ne z1 hh0 (Or.inl (cR _))
    have z3 : lvGet lv3 0 = some (.ref q0) := lvGet_s1_ne z2 hh0 (Or.inl (cR _))
    have z4 : lvGet lv4 0 = some (.ref q0) := lvGet_s1_ne z3 hh0 (Or.inl (cR _))
    obtain ⟨lvE, r1, r2, r3, r4⟩ := ih (k + 1) (v + 1) (lvSet1 lv4 i (.int (v + 1))) (by omega) hv1 lvGet_s1 (by rw [hp]; exact lvGet_s1_ne lvGet_s1 hih (Or.inl (cI _))) (lvGet_s1_ne z4 hi0 (Or.inl (cR _)))
    refine ⟨lvE, r1, r2, fun m hm => r3 m (lvOk_set1 (lvOk_set1 (lvOk_set1 (lvOk_set1 (lvOk_set1 hm rfl) rfl) rfl) rfl) rfl), fun ca cb kk => m_ld a0 b0 hx (m_a0 a1 b1 h0 (m_gf a2 b2 hq0 fz (m_ge a3 b3 ?_)))⟩
    rw [if_neg (by rw [Int32.le_iff_toInt_le, hv, hN]; omega)]
    refine j1 _ lv σ ca cb q0 sa fl t v _ k hh hx h0 hq0 f1 g1 hv (by omega) k1 ?_
    rw [seal_step]
    refine j2 _ lv1 σ ca cb q0 sb fl a v _ k lvGet_s1 x1 z1 hq0 f2 g2 hv (by omega) k2 ?_
    rw [seal_step]
    refine j3 _ lv2 σ ca cb q0 sc fl b v _ k lvGet_s1 x2 z2 hq0 f3 g3 hv (by omega) k3 ?_
    rw [seal_step]
    refine j4 _ lv3 σ ca cb q0 sd fl c v _ k lvGet_s1 x3 z3 hq0 f4 g4 hv (by omega) k4 ?_
    rw [seal_step]
    exact m_inc a5 b5 x4 hil (m_go a6 b6 (r4 ca cb kk))
-- the model's: place by place
noncomputable def eR (l : List Int32) (p : Nat) : Nat → Int
  | 0 => 17
  | j + 1 => 31 * eR l p j + gI l (p + j)
theorem eR_4 (l : List Int32) (p : Nat) : ∀ m : Nat, eR l p (4 * m) = pR l p m := by
  intro m
  induction m with
  | zero => rfl
  | succ m ih =>
    show 31 * (31 * (31 * (31 * eR l p (4 * m) + gI l (p + 4 * m)) + gI l (p + (4 * m + 1))) + gI l (p + (4 * m + 2))) + gI l (p + (4 * m + 3)) = 923521 * pR l p m + 29791 * gI l (p + 4 * m) + 961 * gI l (p + 4 * m + 1) + 31 * gI l (p + 4 * m + 2) + gI l (p + 4 * m + 3)
    rw [ih, show p + (4 * m + 1) = p + 4 * m + 1 from rfl, show p + (4 * m + 2) = p + 4 * m + 2 from rfl, show p + (4 * m + 3) = p + 4 * m + 3 from rfl]
    omega
noncomputable def sealRTs (H X k n r h ci sF : Nat) : List (Nat → XE → Bool) := [tLd k, tIc 4, tLd n, tMul, tGe X, tBi 31, tLd h, tMul, tA0, tGf ci sF, tLd r, tLd k, tAdd, tIl, tAdd, tSt h, tInc k, tGo H]
noncomputable def sealRXs (n h ex : Nat) : List (Nat → XE → Bool) := [tBi 31, tLd h, tMul, tLd n, tAdd, tAt ex]
theorem sealR_loop {ini : Bool} {o nL : Nat} {tb : List (List (Option XE))} {d : Nat} {Q : Res → Prop} {H X kx nx_ r h ci sF q0 s p N : Nat} {fl : List Value} {l : List Int32} {nv pv : Int32} {σ : SH} (hw : walk tb H (sealRTs H X kx nx_ r h ci sF) = true) (hk0 : kx ≠ 0) (hh0 : h ≠ 0) (hkh : kx ≠ h) (hkn : kx ≠ nx_) (hkr : kx ≠ r) (hhn : h ≠ nx_) (hhr : h ≠ r) (hkl : kx < nL) (hhl : h < nL) (hq0 : σ[q0]? = some (.inl (ci, fl))) (f1 : fl[sF]? = some (.ref s)) (g1 : σ[s]? = some (.inr (0, .inl l))) (hN : nv.toInt = N) (hN6 : N ≤ 60) (hp : pv.toInt = p) (hpN : p + 4 * N ≤ l.length) (hl : l.length < 2000) : ∀ (n j : Nat) (v : Int32) (lv : LV), n + j = 4 * N → v.toInt = j → lvGet lv kx = some (.int v) → lvGet lv h = some (.int (Int32.ofInt (eR l p j))) → lvGet lv 0 = some (.ref q0) → lvGet lv nx_ = some (.int nv) → lvGet lv r = some (.int pv) →
    ∃ lvE : LV, lvGet lvE h = some (.int (Int32.ofInt (eR l p (4 * N)))) ∧ lvGet lvE nx_ = some (.int nv) ∧ (∀ m, lvOk m lv → lvOk m lvE) ∧ ∀ ca cb, Good none ini o nL tb d Q (X, [], lvE, σ, ca, cb) → Good none ini o nL tb d Q (H, [], lv, σ, ca, cb) := by
  intro n
  obtain ⟨e0, a0, b0, hw⟩ := walk_cons hw
  obtain ⟨e1, a1, b1, hw⟩ := walk_cons hw
  obtain ⟨e2, a2, b2, hw⟩ := walk_cons hw
  obtain ⟨e3, a3, b3, hw⟩ := walk_cons hw
  obtain ⟨e4, a4, b4, hw⟩ := walk_cons hw
  obtain ⟨e5, a5, b5, hw⟩ := walk_cons hw
  obtain ⟨e6, a6, b6, hw⟩ := walk_cons hw
  obtain ⟨e7, a7, b7, hw⟩ := walk_cons hw
  obtain ⟨e8, a8, b8, hw⟩ := walk_cons hw
  obtain ⟨e9, a9, b9, hw⟩ := walk_cons hw
  obtain ⟨e10, a10, b10, hw⟩ := walk_cons hw
  obtain ⟨e11, a11, b11, hw⟩ := walk_cons hw
  obtain ⟨e12, a12, b12, hw⟩ := walk_cons hw
  obtain ⟨e13, a13, b13, hw⟩ := walk_cons hw
  obtain ⟨e14, a14, b14, hw⟩ := walk_cons hw
  obtain ⟨e15, a15, b15, hw⟩ := walk_cons hw
  obtain ⟨e16, a16, b16, hw⟩ := walk_cons hw
  obtain ⟨e17, a17, b17, -⟩ := walk_cons hw
  have h4 : (Int32.ofNat 4 * nv).toInt = ((4 * N : Nat) : Int) := by
    rw [Int32.toInt_mul, hN, show (Int32.ofNat 4).toInt = 4 by decide, Int.bmod_eq_of_le (by omega) (by omega)]
    omega
  induction n with
  | zero =>
    intro j v lv hnj hv hx hh h0 hn hr
    have hj : j = 4 * N := by omega
    subst hj
    refine ⟨lv, hh, hn, fun m h => h, fun ca cb kk => m_ld a0 b0 hx (m_ic a1 b1 (m_ld a2 b2 hn (m_mul a3 b3 (m_ge a4 b4 ?_))))⟩
    rw [if_pos (by rw [Int32.le_iff_toInt_le, hv, h4]; exact Int.le_refl _)]
    exact kk
  | succ n ih =>
    intro j v lv hnj hv hx hh h0 hn hr
    have hv1 : (v + 1).toInt = ((j + 1 : Nat) : Int) := by
      rw [Int32.toInt_add, hv, show (1 : Int32).toInt = 1 by decide, Int.bmod_eq_of_le (by omega) (by omega)]
      rfl
    have cI : ∀ w : Int32, (Value.int w).category ≠ 2 := fun w => (show (1 : Nat) ≠ 2 by decide)
    have cR : ∀ w : Nat, (Value.ref w).category ≠ 2 := fun w => (show (1 : Nat) ≠ 2 by decide)
    have hpj : (pv + v).toInt = ((p + j : Nat) : Int) := by
      rw [Int32.toInt_add, hp, hv, Int.bmod_eq_of_le (by omega) (by omega)]
      rfl
    obtain ⟨i1, i2⟩ := inB_of hpj (by omega) hl
    let w1 := Int32.ofInt (31 * eR l p j + gI l (p + j))
    let lv1 := lvSet1 lv h (.int w1)
    have ne1 : h ≠ kx := fun e => hkh e.symm
    have x1 : lvGet lv1 kx = some (.int v) := lvGet_s1_ne hx ne1 (Or.inl (cI _))
    have z1 : lvGet lv1 0 = some (.ref q0) := lvGet_s1_ne h0 hh0 (Or.inl (cR _))
    have n1 : lvGet lv1 nx_ = some (.int nv) := lvGet_s1_ne hn hhn (Or.inl (cI _))
    have r1 : lvGet lv1 r = some (.int pv) := lvGet_s1_ne hr hhr (Or.inl (cI _))
    obtain ⟨lvE, y1, y2, y3, y4⟩ := ih (j + 1) (v + 1) (lvSet1 lv1 kx (.int (v + 1))) (by omega) hv1 lvGet_s1 (lvGet_s1_ne lvGet_s1 hkh (Or.inl (cI _))) (lvGet_s1_ne z1 hk0 (Or.inl (cR _))) (lvGet_s1_ne n1 hkn (Or.inl (cI _))) (lvGet_s1_ne r1 hkr (Or.inl (cI _)))
    refine ⟨lvE, y1, y2, fun m hm => y3 m (lvOk_set1 (lvOk_set1 hm rfl) rfl), fun ca cb kk => m_ld a0 b0 hx (m_ic a1 b1 (m_ld a2 b2 hn (m_mul a3 b3 (m_ge a4 b4 ?_))))⟩
    rw [if_neg (by rw [Int32.le_iff_toInt_le, hv, h4]; omega)]
    refine m_bi a5 b5 (m_ld a6 b6 hh (m_mul a7 b7 (m_a0 a8 b8 h0 (m_gf a9 b9 hq0 f1 (m_ld a10 b10 hr (m_ld a11 b11 hx (m_add a12 b12 (m_il a13 b13 g1 i1 ?_))))))))
    rw [i2]
    refine m_add a14 b14 (m_st a15 b15 hhl ?_)
    rw [seal_step]
    exact m_inc a16 b16 x1 hkl (m_go a17 b17 (y4 ca cb kk))
-- what is left on the stack: a number with its tie to the seal
noncomputable def f11 (tab : Tb) (fs : List Ln) (x : Ln) (p : PD) : Option Ln := match p.2.1, p.2.2 with
  | [], [y, v] => bif Nat.beq p.1 11 then (bif eqL tab fs y x then some v else none) else none
  | _, _ => none
theorem f11_inv {tab : Tb} {fs : List Ln} {x v : Ln} {p : PD} (h : f11 tab fs x p = some v) : ∃ y, p = (11, [], [y, v]) ∧ eqL tab fs y x = true := by
  unfold f11 at h
  split at h
  · rename_i y v' h1 h2
    obtain ⟨k0, l0, ns0⟩ := p
    try dsimp only at h1 h2 h
    subst h1; subst h2
    cases z0 : Nat.beq k0 11 with
    | false => rw [z0] at h; cases h
    | true =>
      rw [z0, cond_true] at h
      have ek := Nat.eq_of_beq_eq_true z0
      subst ek
      cases z : eqL tab fs y x with
      | false => rw [z] at h; cases h
      | true =>
        rw [z] at h
        cases h
        exact ⟨y, rfl, z⟩
  · cases h
noncomputable def sealR (ex : Nat) (A : AH) (pr : List PD) (nx : Nat) (tab : Tb) (fs : List Ln) (x : Ln) : Option MR := match pr.findSome? (f11 tab fs x) with
  | some v => some (ex, [.inl (false, v)], [], A, pr, nx, tab, fs)
  | none => some (ex, [.inl (false, sL nx)], [], A, (11, [], [x, sL nx]) :: pr, Nat.succ nx, tbIns nx lo32 hi32 tab, fs)
theorem sealR_ok {ex nx : Nat} {A A' : AH} {pr pr' : List PD} {tab tab' : Tb} {fs fs' : List Ln} {x : Ln} {pc' : Nat} {st' : List AV} {lv' : AL} {nx' : Nat} {ρ : Nat → Int} {clv : LV} {cσ : SH} {w : Int32} (h : sealR ex A pr nx tab fs x = some (pc', st', lv', A', pr', nx', tab', fs')) (hr : ∀ ρ', agr2 nx ρ ρ' → tOk ρ' tab ∧ fOk ρ' fs ∧ rel2 (crel ρ') cσ A) (hp : ∀ ρ', agr2 nx ρ ρ' → prOk PPk ρ' cσ pr) (hw : ∀ ρ', agr2 nx ρ ρ' → w.toInt = Int.bmod (ev ρ' x) 4294967296) : ∃ ρ1, pc' = ex ∧ nx ≤ nx' ∧ agr2 nx ρ ρ1 ∧ (∀ ρ', agr2 nx' ρ1 ρ' → tOk ρ' tab' ∧ fOk ρ' fs' ∧ rel2 (vrel ρ') [.int w] st' ∧ lvR ρ' clv lv' ∧ rel2 (crel ρ') cσ A') ∧ ∀ ρ', agr2 nx' ρ1 ρ' → prOk PPk ρ' cσ pr' := by
  unfold sealR at h
  split at h
  · rename_i v hv
    cases h
    obtain ⟨p, hm, hf⟩ := List.exists_of_findSome?_eq_some hv
    obtain ⟨y, rfl, hy⟩ := f11_inv hf
    refine ⟨ρ, rfl, Nat.le_refl _, agr2.rf, fun ρ' ha => ⟨(hr ρ' ha).1, (hr ρ' ha).2.1, ⟨⟨w, rfl, ?_⟩, trivial⟩, fun q hq => (by cases hq), (hr ρ' ha).2.2⟩, hp⟩
    have h1 : okWr (ev ρ' y) (ev ρ' v) := (show PPn 11 [] [ev ρ' y, ev ρ' v] from hp ρ' ha _ hm).2
    rw [hw ρ' ha, ← eqL_ok (hr ρ' ha).1 (hr ρ' ha).2.1 hy]
    exact h1.symm
  · cases h
    have hag : ∀ {ρ'}, agr2 (Nat.succ nx) (fun j => if j = nx then w.toInt else ρ j) ρ' → agr2 nx ρ ρ' ∧ ρ' nx = w.toInt := fun {ρ'} ha => ⟨fun j hj => (ha j (Nat.lt_succ_of_lt hj)).trans (if_neg (by omega)), (ha nx (Nat.lt_succ_self nx)).trans (if_pos rfl)⟩
    refine ⟨fun j => if j = nx then w.toInt else ρ j, rfl, Nat.le_succ nx, fun j hj => if_neg (by omega), fun ρ' ha => ?_, fun ρ' ha => ?_⟩
    · obtain ⟨ha0, ha1⟩ := hag ha
      refine ⟨tOk_cons (hr ρ' ha0).1 (by rw [ha1]; exact (in32 w).1) (by rw [ha1]; exact (in32 w).2), (hr ρ' ha0).2.1, ⟨⟨w, rfl, by rw [ev_s, ha1]⟩, trivial⟩, fun q hq => (by cases hq), (hr ρ' ha0).2.2⟩
    · obtain ⟨ha0, ha1⟩ := hag ha
      refine List.forall_mem_cons.mpr ⟨?_, hp ρ' ha0⟩
      refine (show PPn 11 [] [ev ρ' x, ev ρ' (sL nx)] from ⟨rfl, ?_⟩)
      show ev ρ' (sL nx) = Int.bmod (ev ρ' x) 4294967296
      rw [ev_s, ha1, hw ρ' ha0]
theorem seal_val {S : Int} {nv w : Int32} {N : Nat} (hN : nv.toInt = N) (e : w = Int32.ofNat 31 * Int32.ofInt S + nv) : w.toInt = Int.bmod (31 * S + N) 4294967296 := by
  have h1 : nv = Int32.ofInt (N : Int) := by rw [← hN, Int32.ofInt_toInt]
  rw [e, h1, ofI_31, ← Int32.ofInt_mul, ← Int32.ofInt_add, Int32.toInt_ofInt]
noncomputable def mSealC (H X i h ci zf f ex : Nat) : MC := fun nL tb pc st lv A pr nx tab fs => bif (bif Nat.beq pc H then (bif Nat.blt 0 i then (bif Nat.blt i nL then (bif Nat.blt 0 h then (bif Nat.blt h nL then (bif Nat.beq i h then false else true) else false) else false) else false) else false) else false) then (bif (bif walk tb H (sealCTs H X i h ci zf f) then walk tb X (sealCXs h ci zf ex) else false) then (match st, alGet i lv, alGet h lv, alGet 0 lv with
  | [], some (.inl (false, ei)), some (.inl (false, eh)), some (.inr (.inl (some o))) => (match cst tab ei, cst tab eh, A[o]? with
    | some (.ofNat 0), some (.ofNat 17), some (.inl (c', as)) => (match refAt as f, refAt as (f + 1), refAt as (f + 2), refAt as (f + 3), as[zf]? with
      | some a, some b, some c, some d, some (.inl (false, e)) => bif (bif Nat.beq c' ci then (bif (isRowA A a && (isRowA A b && (isRowA A c && isRowA A d))) then hasQ [a, b, c, d] pr else false) else false) then (match pr.findSome? (cp8 tab fs e a b c d 0 0 0 0) with
        | some (_, _, [_, t]) => sealR ex A pr nx tab fs (addL (sclL (.ofNat 31) t) e)
        | _ => none) else none
      | _, _, _, _, _ => none)
    | _, _, _ => none)
  | _, _, _, _ => none) else none) else none
theorem mSealC_ok (H X i h ci zf f ex : Nat) : McOk PPk (mSealC H X i h ci zf f ex) := by
  intro ini o nL tb d Q pc st lv A pr nx tab fs pc' st' lv' A' pr' nx' tab' fs' ρ cst0 clv cσ hM hr hp hlv
  unfold mSealC at hM
  obtain ⟨g0, hk⟩ : (bif Nat.beq pc H then (bif Nat.blt 0 i then (bif Nat.blt i nL then (bif Nat.blt 0 h then (bif Nat.blt h nL then (bif Nat.beq i h then false else true) else false) else false) else false) else false) else false) = true ∧ _ := by
    cases z : (bif Nat.beq pc H then (bif Nat.blt 0 i then (bif Nat.blt i nL then (bif Nat.blt 0 h then (bif Nat.blt h nL then (bif Nat.beq i h then false else true) else false) else false) else false) else false) else false) with
    | false => rw [z] at hM; cases hM
    | true => rw [z] at hM; exact ⟨rfl, hM⟩
  clear hM
  obtain ⟨y1, g0⟩ := cand g0
  obtain ⟨y2, g0⟩ := cand g0
  obtain ⟨y3, g0⟩ := cand g0
  obtain ⟨y4, g0⟩ := cand g0
  obtain ⟨y5, y6⟩ := cand g0
  have epc := Nat.eq_of_beq_eq_true y1
  subst epc
  have hi0 : i ≠ 0 := by have := blt_iff.mp y2; omega
  have hh0 : h ≠ 0 := by have := blt_iff.mp y4; omega
  have hih : i ≠ h := fun e => by
    rw [e, Nat.beq_refl] at y6
    cases y6
  simp only [cond_true] at hk
  cases hw : (bif walk tb pc (sealCTs pc X i h ci zf f) then walk tb X (sealCXs h ci zf ex) else false) with
  | false => rw [hw] at hk; cases hk
  | true =>
    rw [hw] at hk
    simp only [cond_true] at hk
    obtain ⟨hw1, hw2⟩ := cand hw
    split at hk
    · rename_i ei eh q0 hli hlh hl0
      split at hk
      · rename_i c' as hci hch hA0
        split at hk
        · rename_i a b c e' e hfa hfb hfc hfd hz
          cases z : (bif Nat.beq c' ci then (bif (isRowA A a && (isRowA A b && (isRowA A c && isRowA A e'))) then hasQ [a, b, c, e'] pr else false) else false) with
          | false => rw [z] at hk; cases hk
          | true =>
            rw [z, cond_true] at hk
            obtain ⟨z1, z⟩ := cand z
            obtain ⟨z2, z3⟩ := cand z
            have ec := Nat.eq_of_beq_eq_true z1
            subst ec
            simp only [Bool.and_eq_true] at z2
            obtain ⟨w1, w2, w3, w4⟩ := z2
            split at hk
            · rename_i k9 l9 n9 t hfs
              obtain ⟨p, hm, hf⟩ := List.exists_of_findSome?_eq_some hfs
              obtain ⟨n, t', rfl, e2, hev⟩ := cp8_inv hf
              cases e2
              obtain ⟨t1, t2, t3, t4, t5⟩ := hr ρ agr2.rf
              have hst : cst0 = [] := rel2_nil t3
              subst hst
              obtain ⟨v0, v01, v02⟩ := lvR_get t4 hl0
              have e0 := vR_inv v02
              subst e0
              obtain ⟨vi, vi1, vi2⟩ := lvR_get t4 hli
              obtain ⟨v, ev1, ev2⟩ := vI_inv vi2
              subst ev1
              obtain ⟨vh, vh1, vh2⟩ := lvR_get t4 hlh
              obtain ⟨u, eu1, eu2⟩ := vI_inv vh2
              subst eu1
              obtain ⟨co, co1, co2⟩ := rel2_get t5 hA0
              obtain ⟨fl, co3, co4⟩ := crO_inv co2
              subst co3
              obtain ⟨g1, x1⟩ := isRowA_ok t5 w1
              obtain ⟨g2, x2⟩ := isRowA_ok t5 w2
              obtain ⟨g3, x3⟩ := isRowA_ok t5 w3
              obtain ⟨g4, x4⟩ := isRowA_ok t5 w4
              obtain ⟨vz, vz1, vz2⟩ := rel2_get co4 hz
              obtain ⟨nv, en1, en2⟩ := vI_inv vz2
              subst en1
              have aD : ∀ {q : Nat} {l : List Int32}, cσ[q]? = some (.inr (0, .inl l)) → arrI (cσ.getD q (.inl (0, []))) = l := fun h => by
                rw [List.getD_eq_getElem?_getD, h]
                rfl
              have pd : okProg (arrI (cσ.getD a (.inl (0, [])))) (arrI (cσ.getD b (.inl (0, [])))) (arrI (cσ.getD c (.inl (0, [])))) (arrI (cσ.getD e' (.inl (0, [])))) := hp ρ agr2.rf _ (hasQ_ok z3)
              rw [aD x1, aD x2, aD x3, aD x4] at pd
              obtain ⟨⟨ld1, ld2, ld3, ld4⟩, -⟩ := pd
              have hv : v.toInt = (0 : Nat) := by
                rw [ev2, cst_ok t1 hci]
                rfl
              have hu : u = Int32.ofInt 17 := Int32.toInt_inj.mp (by
                rw [eu2, cst_ok t1 hch]
                decide)
              subst hu
              obtain ⟨N, m1, m2, m3, m4⟩ := pn8 (hp ρ agr2.rf) hm
              rw [aD x1, aD x2, aD x3, aD x4] at m3 m4
              have hN : nv.toInt = N := by rw [en2, ← eqL_ok t1 t2 hev, m1]
              obtain ⟨lvE, r1, r2, r3, r4⟩ := sealC_loop (ini := ini) (o := o) (d := d) (Q := Q) hw1 hi0 hh0 hih (blt_iff.mp y3) (blt_iff.mp y5) co1 (refAt_ok co4 hfa) (refAt_ok co4 hfb) (refAt_ok co4 hfc) (refAt_ok co4 hfd) x1 x2 x3 x4 vz1 hN m3.1 m3.2.1 m3.2.2.1 m3.2.2.2 (by omega) (by omega) (by omega) (by omega) N 0 v clv rfl hv vi1 vh1 v01
              have hval : ∀ ρ', agr2 nx ρ ρ' → (Int32.ofNat 31 * Int32.ofInt (pC g1 g2 g3 g4 N) + nv).toInt = Int.bmod (ev ρ' (addL (sclL (.ofNat 31) t) e)) 4294967296 := fun ρ' ha => by
                rw [seal_val hN rfl, ev_add, ev_scl]
                obtain ⟨N', m1', -, -, m4'⟩ := pn8 (hp ρ' ha) hm
                rw [aD x1, aD x2, aD x3, aD x4] at m4'
                obtain ⟨vz', vz1', vz2'⟩ := rel2_get (crO_get (hr ρ' ha).2.2.2.2 hA0 co1) hz
                rw [vz1] at vz1'
                cases vz1'
                obtain ⟨x', ex1, ex2⟩ := vI_inv vz2'
                cases ex1
                have e5 := eqL_ok (hr ρ' ha).1 (hr ρ' ha).2.1 hev
                have hNN : N' = N := by omega
                rw [m4', hNN, ← ex2, hN]
                rfl
              obtain ⟨ρ1, s1, s2, s3, s4, s5⟩ := sealR_ok (clv := lvE) hk (fun ρ' ha => ⟨(hr ρ' ha).1, (hr ρ' ha).2.1, (hr ρ' ha).2.2.2.2⟩) hp hval
              subst s1
              refine ⟨_, lvE, cσ, ρ1, s2, s3, s4, s5, r3 _ hlv, fun cca ccb kk => r4 cca ccb ?_⟩
              obtain ⟨e0, a0, b0, hw2⟩ := walk_cons hw2
              obtain ⟨e1, a1, b1, hw2⟩ := walk_cons hw2
              obtain ⟨e2, a2, b2, hw2⟩ := walk_cons hw2
              obtain ⟨e3, a3, b3, hw2⟩ := walk_cons hw2
              obtain ⟨e4, a4, b4, hw2⟩ := walk_cons hw2
              obtain ⟨e5, a5, b5, hw2⟩ := walk_cons hw2
              obtain ⟨e6, a6, b6, -⟩ := walk_cons hw2
              have hex := of_decide_eq_true b6
              rw [← hex] at kk
              exact m_bi a0 b0 (m_ld a1 b1 r1 (m_mul a2 b2 (m_a0 a3 b3 r2 (m_gf a4 b4 co1 vz1 (m_add a5 b5 kk)))))
            · cases hk
        · cases hk
      · cases hk
    · cases hk
/-- of the model's row: f9 finds the seal told of place o on -/
noncomputable def f9 (tab : Tb) (fs : List Ln) (s o : Nat) (e : Ln) (p : PD) : Option Ln := match p.2.1, p.2.2 with
  | [q], [(.ofNat o', []), n, t] => bif Nat.beq p.1 9 then (bif (bif Nat.beq q s then Nat.beq o' o else false) then (bif eqL tab fs n e then some t else none) else none) else none
  | _, _ => none
theorem f9_inv {tab : Tb} {fs : List Ln} {s o : Nat} {e t : Ln} {p : PD} (h : f9 tab fs s o e p = some t) : ∃ n, p = (9, [s], [(.ofNat o, []), n, t]) ∧ eqL tab fs n e = true := by
  unfold f9 at h
  split at h
  · rename_i q o' n t' h1 h2
    obtain ⟨k0, l0, ns0⟩ := p
    try dsimp only at h1 h2 h
    subst h1; subst h2
    cases z0 : Nat.beq k0 9 with
    | false => rw [z0] at h; cases h
    | true =>
      rw [z0, cond_true] at h
      have ek := Nat.eq_of_beq_eq_true z0
      subst ek
      cases z : (bif Nat.beq q s then Nat.beq o' o else false) with
      | false => rw [z] at h; cases h
      | true =>
        rw [z, cond_true] at h
        obtain ⟨y1, y2⟩ := cand z
        cases w : eqL tab fs n e with
        | false => rw [w] at h; cases h
        | true =>
          rw [w] at h
          cases h
          exact ⟨n, by rw [Nat.eq_of_beq_eq_true y1, Nat.eq_of_beq_eq_true y2], w⟩
  · cases h
noncomputable def neqB (a b : Nat) : Bool := bif Nat.beq a b then false else true
theorem neqB_ok {a b : Nat} (h : neqB a b = true) : a ≠ b := fun e => by
  unfold neqB at h
  rw [e, Nat.beq_refl] at h
  cases h
noncomputable def sealG (k n r h nL : Nat) : Bool := bif Nat.blt 0 k then (bif Nat.blt 0 h then (bif Nat.blt k nL then (bif Nat.blt h nL then (bif neqB k h then (bif neqB k n then (bif neqB k r then (bif neqB h n then neqB h r else false) else false) else false) else false) else false) else false) else false) else false
noncomputable def mSealR (H X k n r h ci sF ex : Nat) : MC := fun nL tb pc st lv A pr nx tab fs => bif (bif Nat.beq pc H then sealG k n r h nL else false) then (bif (bif walk tb H (sealRTs H X k n r h ci sF) then walk tb X (sealRXs n h ex) else false) then (match st, alGet k lv, alGet n lv, alGet r lv, alGet h lv, alGet 0 lv with
  | [], some (.inl (false, ek)), some (.inl (false, en)), some (.inl (false, er)), some (.inl (false, eh)), some (.inr (.inl (some o))) => (match cst tab ek, cst tab er, cst tab eh, A[o]? with
    | some (.ofNat 0), some (.ofNat p), some (.ofNat 17), some (.inl (c', as)) => (match refAt as sF with
      | some s => (match A[s]? with
        | some (.inr (0, .inl ss)) => bif (bif Nat.beq c' ci then Nat.beq (sgLen ss) 910 else false) then (match pr.findSome? (f9 tab fs s p en) with
          | some t => sealR ex A pr nx tab fs (addL (sclL (.ofNat 31) t) en)
          | none => none) else none
        | _ => none)
      | none => none)
    | _, _, _, _ => none)
  | _, _, _, _, _, _ => none) else none) else none
theorem mSealR_ok (H X k n r h ci sF ex : Nat) : McOk PPk (mSealR H X k n r h ci sF ex) := by
  intro ini o nL tb d Q pc st lv A pr nx tab fs pc' st' lv' A' pr' nx' tab' fs' ρ cst0 clv cσ hM hr hp hlv
  unfold mSealR at hM
  obtain ⟨g0, hk⟩ : (bif Nat.beq pc H then sealG k n r h nL else false) = true ∧ _ := by
    cases z : (bif Nat.beq pc H then sealG k n r h nL else false) with
    | false => rw [z] at hM; cases hM
    | true => rw [z] at hM; exact ⟨rfl, hM⟩
  clear hM
  obtain ⟨y1, g0⟩ := cand g0
  unfold sealG at g0
  obtain ⟨y2, g0⟩ := cand g0
  obtain ⟨y3, g0⟩ := cand g0
  obtain ⟨y4, g0⟩ := cand g0
  obtain ⟨y5, g0⟩ := cand g0
  obtain ⟨y6, g0⟩ := cand g0
  obtain ⟨y7, g0⟩ := cand g0
  obtain ⟨y8, g0⟩ := cand g0
  obtain ⟨y9, y10⟩ := cand g0
  have epc := Nat.eq_of_beq_eq_true y1
  subst epc
  have hk0 : k ≠ 0 := by have := blt_iff.mp y2; omega
  have hh0 : h ≠ 0 := by have := blt_iff.mp y3; omega
  simp only [cond_true] at hk
  cases hw : (bif walk tb pc (sealRTs pc X k n r h ci sF) then walk tb X (sealRXs n h ex) else false) with
  | false => rw [hw] at hk; cases hk
  | true =>
    rw [hw] at hk
    simp only [cond_true] at hk
    obtain ⟨hw1, hw2⟩ := cand hw
    split at hk
    · rename_i ek en er eh q0 hlk hln hlr hlh hl0
      split at hk
      · rename_i p c' as hck hcr hch hA0
        split at hk
        · rename_i s hs
          split at hk
          · rename_i ss hAs
            cases z : (bif Nat.beq c' ci then Nat.beq (sgLen ss) 910 else false) with
            | false => rw [z] at hk; cases hk
            | true =>
              rw [z, cond_true] at hk
              obtain ⟨z1, z2⟩ := cand z
              have ec := Nat.eq_of_beq_eq_true z1
              subst ec
              split at hk
              · rename_i t hfs
                obtain ⟨p0, hm, hf⟩ := List.exists_of_findSome?_eq_some hfs
                obtain ⟨nn, rfl, hev⟩ := f9_inv hf
                obtain ⟨t1, t2, t3, t4, t5⟩ := hr ρ agr2.rf
                have hst : cst0 = [] := rel2_nil t3
                subst hst
                obtain ⟨v0, v01, v02⟩ := lvR_get t4 hl0
                have e0 := vR_inv v02
                subst e0
                obtain ⟨vk, vk1, vk2⟩ := lvR_get t4 hlk
                obtain ⟨v, ev1, ev2⟩ := vI_inv vk2
                subst ev1
                obtain ⟨vh, vh1, vh2⟩ := lvR_get t4 hlh
                obtain ⟨u, eu1, eu2⟩ := vI_inv vh2
                subst eu1
                obtain ⟨vn, vn1, vn2⟩ := lvR_get t4 hln
                obtain ⟨nv, en1, en2⟩ := vI_inv vn2
                subst en1
                obtain ⟨vr, vr1, vr2⟩ := lvR_get t4 hlr
                obtain ⟨pv, er1, er2⟩ := vI_inv vr2
                subst er1
                obtain ⟨co, co1, co2⟩ := rel2_get t5 hA0
                obtain ⟨fl, co3, co4⟩ := crO_inv co2
                subst co3
                obtain ⟨cs, cs1, cs2⟩ := rel2_get t5 hAs
                obtain ⟨l, cs3, cs4⟩ := crI_inv (by decide) cs2
                subst cs3
                have hl : l.length = 910 := by rw [srel_len cs4]; exact Nat.eq_of_beq_eq_true z2
                have aD : arrI (cσ.getD s (.inl (0, []))) = l := by
                  rw [List.getD_eq_getElem?_getD, cs1]
                  rfl
                have hv : v.toInt = (0 : Nat) := by
                  rw [ev2, cst_ok t1 hck]
                  rfl
                have hpv : pv.toInt = p := by
                  rw [er2, cst_ok t1 hcr]
                  rfl
                have hu : u = Int32.ofInt 17 := Int32.toInt_inj.mp (by
                  rw [eu2, cst_ok t1 hch]
                  decide)
                subst hu
                obtain ⟨p', N, m0, m1, m2, m3, m4⟩ := pn9 (hp ρ agr2.rf) hm
                rw [show ev ρ ((.ofNat p, []) : Ln) = (p : Int) from ev_k ρ p] at m0
                have ep : p' = p := by omega
                subst ep
                rw [aD] at m3 m4
                have hN : nv.toInt = N := by rw [en2, ← eqL_ok t1 t2 hev, m1]
                obtain ⟨lvE, r1, r2, r3, r4⟩ := sealR_loop (ini := ini) (o := o) (d := d) (Q := Q) hw1 hk0 hh0 (neqB_ok y6) (neqB_ok y7) (neqB_ok y8) (neqB_ok y9) (neqB_ok y10) (blt_iff.mp y4) (blt_iff.mp y5) co1 (refAt_ok co4 hs) cs1 hN m2 hpv m3 (by omega) (4 * N) 0 v clv rfl hv vk1 vh1 v01 vn1 vr1
                rw [eR_4] at r1
                have hval : ∀ ρ', agr2 nx ρ ρ' → (Int32.ofNat 31 * Int32.ofInt (pR l p' N) + nv).toInt = Int.bmod (ev ρ' (addL (sclL (.ofNat 31) t) en)) 4294967296 := fun ρ' ha => by
                  rw [seal_val hN rfl, ev_add, ev_scl]
                  obtain ⟨p2, N', m0', m1', -, -, m4'⟩ := pn9 (hp ρ' ha) hm
                  rw [show ev ρ' ((.ofNat p', []) : Ln) = (p' : Int) from ev_k ρ' p'] at m0'
                  have ep2 : p2 = p' := by omega
                  subst ep2
                  rw [aD] at m4'
                  obtain ⟨vn', vn1', vn2'⟩ := lvR_get (hr ρ' ha).2.2.2.1 hln
                  rw [vn1] at vn1'
                  cases vn1'
                  obtain ⟨x', ex1, ex2⟩ := vI_inv vn2'
                  cases ex1
                  have e5 := eqL_ok (hr ρ' ha).1 (hr ρ' ha).2.1 hev
                  have hNN : N' = N := by omega
                  rw [m4', hNN, ← ex2, hN]
                  rfl
                obtain ⟨ρ1, s1, s2, s3, s4, s5⟩ := sealR_ok (clv := lvE) hk (fun ρ' ha => ⟨(hr ρ' ha).1, (hr ρ' ha).2.1, (hr ρ' ha).2.2.2.2⟩) hp hval
                subst s1
                refine ⟨_, lvE, cσ, ρ1, s2, s3, s4, s5, r3 _ hlv, fun cca ccb kk => r4 cca ccb ?_⟩
                obtain ⟨e0, a0, b0, hw2⟩ := walk_cons hw2
                obtain ⟨e1, a1, b1, hw2⟩ := walk_cons hw2
                obtain ⟨e2, a2, b2, hw2⟩ := walk_cons hw2
                obtain ⟨e3, a3, b3, hw2⟩ := walk_cons hw2
                obtain ⟨e4, a4, b4, hw2⟩ := walk_cons hw2
                obtain ⟨e5, a5, b5, -⟩ := walk_cons hw2
                have hex := of_decide_eq_true b5
                rw [← hex] at kk
                exact m_bi a0 b0 (m_ld a1 b1 r1 (m_mul a2 b2 (m_ld a3 b3 r2 (m_add a4 b4 kk))))
              · cases hk
          · cases hk
        · cases hk
      · cases hk
    · cases hk
/-! ===== macro: slots of the class copied: two rows up to their size ===== -/
noncomputable def occP (tab : Tb) (fs : List Ln) (e : Ln) (s1 s2 d1 d2 : Nat) (p : PD) : Option PD := match p.2.1, p.2.2 with
  | [a, b], [n, t] => bif Nat.beq p.1 16 then (bif (bif Nat.beq a s1 then Nat.beq b s2 else false) then (bif eqL tab fs n e then some (16, [d1, d2], [n, t]) else none) else none) else none
  | _, _ => none
theorem pn16 {ρ : Nat → Int} {cσ : SH} {pr : List PD} {a b : Nat} {n s : Ln} (h : prOk PPk ρ cσ pr) (hm : (16, [a, b], [n, s]) ∈ pr) : okOccG (arrI (cσ.getD a (.inl (0, [])))) (arrI (cσ.getD b (.inl (0, [])))) 0 0 1 (ev ρ n) (ev ρ s) := (show PPn 16 [arrI (cσ.getD a (.inl (0, []))), arrI (cσ.getD b (.inl (0, [])))] [ev ρ n, ev ρ s] from h _ hm).2
theorem occP_inv {tab : Tb} {fs : List Ln} {e : Ln} {s1 s2 d1 d2 : Nat} {p p' : PD} (h : occP tab fs e s1 s2 d1 d2 p = some p') : ∃ n t, p = (16, [s1, s2], [n, t]) ∧ p' = (16, [d1, d2], [n, t]) ∧ eqL tab fs n e = true := by
  unfold occP at h
  split at h
  · rename_i a b n t h1 h2
    obtain ⟨k0, l0, ns0⟩ := p
    try dsimp only at h1 h2 h
    subst h1; subst h2
    cases z0 : Nat.beq k0 16 with
    | false => rw [z0] at h; cases h
    | true =>
      rw [z0, cond_true] at h
      have ek := Nat.eq_of_beq_eq_true z0
      subst ek
      cases z : (bif Nat.beq a s1 then Nat.beq b s2 else false) with
      | false => rw [z] at h; cases h
      | true =>
        rw [z, cond_true] at h
        obtain ⟨y1, y2⟩ := cand z
        cases w : eqL tab fs n e with
        | false => rw [w] at h; cases h
        | true =>
          rw [w] at h
          cases h
          exact ⟨n, t, by rw [Nat.eq_of_beq_eq_true y1, Nat.eq_of_beq_eq_true y2], rfl, w⟩
  · cases h
/-- a row of eight within bounds -/
noncomputable def row8 (A : AH) (q : Nat) : Option (Int × Int) := match A[q]? with
  | some (.inr (0, .inl [.inr (m, lo, hi)])) => bif Nat.beq m 8 then some (lo, hi) else none
  | _ => none
theorem row8_ok {ρ : Nat → Int} {σ : SH} {A : AH} (hA : rel2 (crel ρ) σ A) {q : Nat} {lo hi : Int} (h : row8 A q = some (lo, hi)) : ∃ l, σ[q]? = some (.inr (0, .inl l)) ∧ l.length = 8 ∧ (∀ x ∈ l, lo ≤ x.toInt ∧ x.toInt ≤ hi) ∧ A[q]? = some (.inr (0, .inl [.inr (8, lo, hi)])) := by
  unfold row8 at h
  split at h
  · rename_i m lo' hi' hq
    cases z : Nat.beq m 8 with
    | false => rw [z] at h; cases h
    | true =>
      rw [z] at h
      cases h
      have e := Nat.eq_of_beq_eq_true z
      subst e
      obtain ⟨c, c1, c2⟩ := rel2_get hA hq
      obtain ⟨l, e1, e2⟩ := crI_inv (by decide) c2
      subst e1
      obtain ⟨l1, l2, q1, q2, q3, q4⟩ := e2
      have q5 : l2 = [] := q4
      subst q5
      rw [List.append_nil] at q1
      subst q1
      exact ⟨l, c1, q2, q3, hq⟩
  · cases h
theorem cpy_bnd {f g : List Int32} {n : Nat} {lo hi lo' hi' : Int} (h1 : n ≤ f.length) (h2 : n ≤ g.length) (hf : ∀ x ∈ f, lo ≤ x.toInt ∧ x.toInt ≤ hi) (hg : ∀ x ∈ g, lo' ≤ x.toInt ∧ x.toInt ≤ hi') (e1 : lo' ≤ lo) (e2 : hi ≤ hi') : ∀ x ∈ cpyL f g 0 0 n, lo' ≤ x.toInt ∧ x.toInt ≤ hi' := fun x hx => by
  obtain ⟨i, hi1, hi2⟩ := List.mem_iff_getElem.mp hx
  have h3 : (cpyL f g 0 0 n)[i]? = some x := by rw [List.getElem?_eq_getElem hi1, hi2]
  rw [cpyL_get (by omega) (by omega), if_neg (Nat.not_lt_zero i), Nat.zero_add] at h3
  by_cases c : i < n
  · rw [if_pos c] at h3
    have := hf x (List.mem_of_getElem? h3)
    omega
  · rw [if_neg c] at h3
    exact hg x (List.mem_of_getElem? h3)
noncomputable def mSlot (H ci f zf ex : Nat) : MC := fun _ tb pc st lv A pr nx tab fs => bif Nat.beq pc H then (bif walk tb H (blkTs ci f zf ++ (blkTs ci (f + 1) zf ++ [tAt ex])) then (match st, alGet 0 lv, alGet 1 lv with
  | [], some (.inr (.inl (some q1))), some (.inr (.inl (some q2))) => (match A[q1]?, A[q2]? with
    | some (.inl (c1, as1)), some (.inl (c2, as2)) => (match refAt as1 f, refAt as1 (f + 1), refAt as2 f, refAt as2 (f + 1), as1[zf]? with
      | some d1, some d2, some s1, some s2, some (.inl (false, e)) => (match row8 A d1, row8 A d2, row8 A s1, row8 A s2 with
        | some (l1, h1), some (l2, h2), some (l3, h3), some (l4, h4) => bif (bif Nat.beq c1 ci then (bif Nat.beq c2 ci then (bif va_nd [d1, d2, s1, s2] then (bif (leI l1 l3 && (leI h3 h1 && (leI l2 l4 && leI h4 h2))) then inF tab fs 0 (.ofNat 8) e else false) else false) else false) else false) then some (ex, st, lv, A, pr.filterMap (occP tab fs e s1 s2 d1 d2) ++ prDel d2 (prDel d1 pr), nx, tab, fs) else none
        | _, _, _, _ => none)
      | _, _, _, _, _ => none)
    | _, _ => none)
  | _, _, _ => none) else none) else none
theorem set_same {α : Type} {l : List α} {i : Nat} {a : α} (h : l[i]? = some a) : l.set i a = l := List.ext_getElem? fun j => by
  by_cases hj : i = j
  · subst hj
    rw [List.getElem?_set_self (List.getElem?_eq_some_iff.mp h).1, h]
  · rw [List.getElem?_set_ne hj]
set_option maxHeartbeats 2000000 in
theorem mSlot_ok (H ci f zf ex : Nat) : McOk PPk (mSlot H ci f zf ex) := by
  intro ini o nL tb d Q pc st lv A pr nx tab fs pc' st' lv' A' pr' nx' tab' fs' ρ cst0 clv cσ h hr hp hlv
  unfold mSlot at h
  cases z0 : Nat.beq pc H with
  | false => rw [z0] at h; cases h
  | true =>
    rw [z0] at h
    have epc := Nat.eq_of_beq_eq_true z0
    subst epc
    simp only [cond_true] at h
    cases hw : walk tb pc (blkTs ci f zf ++ (blkTs ci (f + 1) zf ++ [tAt ex])) with
    | false => rw [hw] at h; cases h
    | true =>
      rw [hw] at h
      simp only [cond_true] at h
      split at h
      · rename_i q1 q2 h0 h1
        split at h
        · rename_i c1 as1 c2 as2 hA1 hA2
          split at h
          · rename_i d1 d2 s1 s2 e hd1 hd2 hs1 hs2 hz
            split at h
            · rename_i l1 u1 l2 u2 l3 u3 l4 u4 hr1 hr2 hr3 hr4
              cases z : (bif Nat.beq c1 ci then (bif Nat.beq c2 ci then (bif va_nd [d1, d2, s1, s2] then (bif (leI l1 l3 && (leI u3 u1 && (leI l2 l4 && leI u4 u2))) then inF tab fs 0 (.ofNat 8) e else false) else false) else false) else false) with
              | false => rw [z] at h; cases h
              | true =>
                rw [z] at h
                cases h
                obtain ⟨z1, z⟩ := cand z
                obtain ⟨z2, z⟩ := cand z
                obtain ⟨z3, z⟩ := cand z
                obtain ⟨z4, z7⟩ := cand z
                have ec1 := Nat.eq_of_beq_eq_true z1
                have ec2 := Nat.eq_of_beq_eq_true z2
                subst ec1; subst ec2
                simp only [Bool.and_eq_true] at z4
                obtain ⟨w1, w2, w3, w4⟩ := z4
                obtain ⟨t1, t2, t3, t4, t5⟩ := hr ρ agr2.rf
                have hst : cst0 = [] := rel2_nil t3
                subst hst
                obtain ⟨v0, v01, v02⟩ := lvR_get t4 h0
                have e0 := vR_inv v02
                subst e0
                obtain ⟨v1, v11, v12⟩ := lvR_get t4 h1
                have e1 := vR_inv v12
                subst e1
                obtain ⟨co, co1, co2⟩ := rel2_get t5 hA1
                obtain ⟨fl1, co3, co4⟩ := crO_inv co2
                subst co3
                obtain ⟨cp, cp1, cp2⟩ := rel2_get t5 hA2
                obtain ⟨fl2, cp3, cp4⟩ := crO_inv cp2
                subst cp3
                obtain ⟨g1, x1, ld1, bd1, aD1⟩ := row8_ok t5 hr1
                obtain ⟨g2, x2, ld2, bd2, aD2⟩ := row8_ok t5 hr2
                obtain ⟨f1, y1, ls1, bs1, -⟩ := row8_ok t5 hr3
                obtain ⟨f2, y2, ls2, bs2, -⟩ := row8_ok t5 hr4
                obtain ⟨vz, vz1, vz2⟩ := rel2_get co4 hz
                obtain ⟨n, en1, en2⟩ := vI_inv vz2
                subst en1
                have hn := inF_ok t1 t2 z7
                rw [← en2] at hn
                have hn8 : n.toInt ≤ 8 := hn.2
                have hn0 : (0 : Int32) ≤ n := by rw [Int32.le_iff_toInt_le]; exact hn.1
                have hcl : n.toNatClampNeg ≤ 8 := by
                  have : n.toNatClampNeg = n.toInt.toNat := rfl
                  omega
                have nd : ∀ (i j a b : Nat), i ≠ j → [d1, d2, s1, s2][i]? = some a → [d1, d2, s1, s2][j]? = some b → a ≠ b := fun i j a b hij ha hb e => hij (va_nd_inj _ z3 i j a ha (e ▸ hb))
                have n12 := nd 0 1 d1 d2 (by decide) rfl rfl
                have m12 := nd 0 3 d1 s2 (by decide) rfl rfl
                have no : ∀ (q r : Nat) (l : List Int32) (c : Nat) (fl : List Value), cσ[q]? = some (.inr (0, .inl l)) → cσ[r]? = some (.inl (c, fl)) → q ≠ r := fun q r l c fl h1 h2 e => by
                  subst e
                  rw [h1] at h2
                  cases h2
                have aD : ∀ {q : Nat} {l : List Int32}, cσ[q]? = some (.inr (0, .inl l)) → arrI (cσ.getD q (.inl (0, []))) = l := fun h => by
                  rw [List.getD_eq_getElem?_getD, h]
                  rfl
                let N := n.toNatClampNeg
                let σ1 := cσ.set d1 (.inr (0, .inl (cpyL f1 g1 0 0 N)))
                let σ2 := σ1.set d2 (.inr (0, .inl (cpyL f2 g2 0 0 N)))
                have r1 : ∀ q, d1 ≠ q → σ1[q]? = cσ[q]? := fun q hq => List.getElem?_set_ne hq
                have a1 := no d1 _ _ _ _ x1 co1
                have b1 := no d1 _ _ _ _ x1 cp1
                obtain ⟨pc1, hw, k1⟩ := m_blk (ini := ini) (o := o) (nL := nL) (d := d) (Q := Q) hw
                obtain ⟨pc2, hw, k2⟩ := m_blk (ini := ini) (o := o) (nL := nL) (d := d) (Q := Q) hw
                obtain ⟨ee, -, hex, -⟩ := walk_cons hw
                have hex' := of_decide_eq_true hex
                subst hex'
                have L1 : d1 < cσ.length := (List.getElem?_eq_some_iff.mp x1).1
                have L2 : d2 < cσ.length := (List.getElem?_eq_some_iff.mp x2).1
                have len1 : σ1.length = cσ.length := List.length_set
                have len2 : σ2.length = cσ.length := List.length_set.trans len1
                have hcy : ∀ {f g : List Int32}, f.length = 8 → g.length = 8 → (cpyL f g 0 0 N).length = 8 := fun {f g} hf hg => by
                  rw [cpyL_len (by omega) (by omega)]
                  exact hg
                have mk8 : ∀ {ρ' : Nat → Int} {l : List Int32} {lo hi : Int}, l.length = 8 → (∀ x ∈ l, lo ≤ x.toInt ∧ x.toInt ≤ hi) → crel ρ' (.inr (0, .inl l)) (.inr (0, .inl [.inr (8, lo, hi)])) := fun hl hb => arel_mk (by decide) ⟨_, [], by rw [List.append_nil], hl, hb, rfl⟩
                refine ⟨[], clv, σ2, ρ, Nat.le_refl _, agr2.rf, fun ρ' ha => ⟨(hr ρ' ha).1, (hr ρ' ha).2.1, trivial, (hr ρ' ha).2.2.2.1, ?_⟩, fun ρ' ha => ?_, by rw [len2]; exact hlv, fun cca ccb hk => ?_⟩
                · have s1' := rel2_set (hr ρ' ha).2.2.2.2 (i := d1) (mk8 (ρ' := ρ') (hcy ls1 ld1) (cpy_bnd (by omega) (by omega) bs1 bd1 (leI_le w1) (leI_le w2)))
                  have s2' := rel2_set s1' (i := d2) (mk8 (ρ' := ρ') (hcy ls2 ld2) (cpy_bnd (by omega) (by omega) bs2 bd2 (leI_le w3) (leI_le w4)))
                  rw [set_same aD1, set_same aD2] at s2'
                  exact s2'
                · have q2 : arrI (σ2.getD d2 (.inl (0, []))) = cpyL f2 g2 0 0 N := by
                    rw [List.getD_eq_getElem?_getD, show σ2[d2]? = _ from List.getElem?_set_self (by rw [len1]; exact L2)]
                    rfl
                  have q1 : arrI (σ2.getD d1 (.inl (0, []))) = cpyL f1 g1 0 0 N := by
                    rw [List.getD_eq_getElem?_getD, show σ2[d1]? = σ1[d1]? from List.getElem?_set_ne (fun e => n12 e.symm), show σ1[d1]? = _ from List.getElem?_set_self L1]
                    rfl
                  intro p hq
                  rcases List.mem_append.mp hq with hq | hq
                  · obtain ⟨p0, hm, hc⟩ := List.mem_filterMap.mp hq
                    obtain ⟨n', t', rfl, rfl, hev⟩ := occP_inv hc
                    have ho := pn16 (hp ρ' ha) hm
                    rw [aD y1, aD y2] at ho
                    have hnN : ev ρ' n' = (N : Int) := by
                      have e1 := eqL_ok (hr ρ' ha).1 (hr ρ' ha).2.1 hev
                      obtain ⟨vz', vz1', vz2'⟩ := rel2_get (crO_get (hr ρ' ha).2.2.2.2 hA1 co1) hz
                      rw [vz1] at vz1'
                      cases vz1'
                      obtain ⟨x', ex1, ex2⟩ := vI_inv vz2'
                      cases ex1
                      have : N = n.toInt.toNat := rfl
                      have h00 : (0 : Int) ≤ n.toInt := hn.1
                      omega
                    show PPn 16 [arrI (σ2.getD d1 (.inl (0, []))), arrI (σ2.getD d2 (.inl (0, [])))] [ev ρ' n', ev ρ' t']
                    rw [q1, q2]
                    refine (show 16 = 16 ∧ okOccG _ _ 0 0 1 _ _ from ⟨rfl, okOcc_mv (fun m hm8 _ i hi => ?_) ho⟩)
                    have hN : N ≤ 8 := hcl
                    have hmN : m = N := by omega
                    unfold slF
                    rw [hcy ls1 ld1, hcy ls2 ld2, gI_c0 (by omega) (by omega), gI_c0 (by omega) (by omega), if_pos (by omega), if_pos (by omega)]
                    exact ⟨⟨by omega, by omega⟩, rfl, rfl⟩
                  · exact prOk_set (prOk_set (hp ρ' ha) d1 _) d2 _ p hq
                · have F1 := refAt_ok co4 hd1
                  have F2 := refAt_ok co4 hd2
                  have S1 := refAt_ok cp4 hs1
                  have S2 := refAt_ok cp4 hs2
                  refine k1 clv cσ cca ccb q1 q2 d1 s1 fl1 fl2 f1 g1 n v01 v11 co1 cp1 F1 S1 vz1 hn0 (by omega) (by omega) y1 x1 ?_
                  exact k2 clv σ1 cca ccb q1 q2 d2 s2 fl1 fl2 f2 g2 n v01 v11 (by rw [r1 _ a1]; exact co1) (by rw [r1 _ b1]; exact cp1) F2 S2 vz1 hn0 (by omega) (by omega) (by rw [r1 _ m12]; exact y2) (by rw [r1 _ n12]; exact x2) hk
            · cases h
          · cases h
        · cases h
      · cases h
