/-! ===== macro: a program of the class copied: four rows up to its size ===== -/
noncomputable def tA1 (_ : Nat) (e : XE) : Bool := match e with
  | (.aload_n k, _, 0, _, _) => Nat.beq k.val 1
  | _ => false
noncomputable def tZ (_ : Nat) (e : XE) : Bool := match e with
  | (.iconst n, _, 0, _, _) => decide (Int32.ofInt n = 0)
  | _ => false
noncomputable def tAc (_ : Nat) (e : XE) : Bool := match e with
  | (.invokestatic _, _, 4, _, _) => true
  | _ => false
section MAC4
variable {ini : Bool} {o nL : Nat} {tb : List (List (Option XE))} {d : Nat} {Q : Res → Prop} {pc : Nat} {e : XE} {st : List Value} {lv : LV} {σ : SH} {ca cb : Nat}
theorem m_a1 {q : Nat} (hg : tbGet tb pc = some e) (h : tA1 pc e = true) (hx : lvGet lv 1 = some (.ref q)) (k : Good none ini o nL tb d Q (pc + e.2.1, .ref q :: st, lv, σ, ca, cb)) : Good none ini o nL tb d Q (pc, st, lv, σ, ca, cb) := by
  refine Good.step ?_ k
  unfold tA1 at h
  split at h
  · rename_i k0 _ _ _
    have e1 : (k0 : Nat) = 1 := Nat.eq_of_beq_eq_true h
    simp only [nxt, hg, stepA, ldA, e1, hx, Option.map_some]
  · cases h
theorem m_z (hg : tbGet tb pc = some e) (h : tZ pc e = true) (k : Good none ini o nL tb d Q (pc + e.2.1, .int 0 :: st, lv, σ, ca, cb)) : Good none ini o nL tb d Q (pc, st, lv, σ, ca, cb) := by
  refine Good.step ?_ k
  unfold tZ at h
  split at h
  · have e1 := of_decide_eq_true h
    simp only [nxt, hg, stepA, e1, Option.map_some]
  · cases h
theorem m_ac {q0 q1 : Nat} {f g : List Int32} {n : Int32} (hg : tbGet tb pc = some e) (h : tAc pc e = true) (h0 : σ[q0]? = some (.inr (0, .inl f))) (h1 : σ[q1]? = some (.inr (0, .inl g))) (hn : 0 ≤ n) (hf : n.toNatClampNeg ≤ f.length) (hgl : n.toNatClampNeg ≤ g.length) (k : Good none ini o nL tb d Q (pc + e.2.1, [], lv, σ.set q1 (.inr (0, .inl (cpyL f g 0 0 n.toNatClampNeg))), ca, cb)) : Good none ini o nL tb d Q (pc, [.int n, .int 0, .ref q1, .int 0, .ref q0], lv, σ, ca, cb) := by
  refine Good.step ?_ k
  unfold tAc at h
  split at h
  · have hz : (0 : Int32).toNatClampNeg = 0 := rfl
    have hc : ((0 = 0 : Prop) ∧ ((0 : Nat) = 0 ∨ (0 : Nat) = 2)) ∧ ((0 : Int32) ≤ 0 ∧ (0 : Int32) ≤ 0 ∧ 0 ≤ n) ∧ ((0 : Int32).toNatClampNeg + n.toNatClampNeg ≤ f.length ∧ (0 : Int32).toNatClampNeg + n.toNatClampNeg ≤ g.length) ∧ (f.all (fun x => fits (kty 0) (.int x)) = true ∧ (([] : List Value).map fun v => v.category).sum ≤ 8) := by
      refine ⟨⟨rfl, Or.inl rfl⟩, ⟨Int32.le_refl _, Int32.le_refl _, hn⟩, ⟨by rw [hz, Nat.zero_add]; exact hf, by rw [hz, Nat.zero_add]; exact hgl⟩, List.all_eq_true.mpr fun x _ => rfl, by decide⟩
    simp only [nxt, hg, stepE, h0, h1]
    rw [if_pos ⟨⟨trivial, Or.inl trivial⟩, hc.2⟩]
    rfl
  · cases h
noncomputable def blkTs (ci j zf : Nat) : List (Nat → XE → Bool) := [tA1, tGf ci j, tZ, tA0, tGf ci j, tZ, tA0, tGf ci zf, tAc]
theorem m_blk {ci j zf pc : Nat} {r : List (Nat → XE → Bool)} (hw : walk tb pc (blkTs ci j zf ++ r) = true) : ∃ pc', walk tb pc' r = true ∧ ∀ (lv : LV) (σ : SH) (ca cb q1 q2 dd ss : Nat) (fl1 fl2 : List Value) (f g : List Int32) (n : Int32), lvGet lv 0 = some (.ref q1) → lvGet lv 1 = some (.ref q2) → σ[q1]? = some (.inl (ci, fl1)) → σ[q2]? = some (.inl (ci, fl2)) → fl1[j]? = some (.ref dd) → fl2[j]? = some (.ref ss) → fl1[zf]? = some (.int n) → 0 ≤ n → n.toNatClampNeg ≤ f.length → n.toNatClampNeg ≤ g.length → σ[ss]? = some (.inr (0, .inl f)) → σ[dd]? = some (.inr (0, .inl g)) → Good none ini o nL tb d Q (pc', [], lv, σ.set dd (.inr (0, .inl (cpyL f g 0 0 n.toNatClampNeg))), ca, cb) → Good none ini o nL tb d Q (pc, [], lv, σ, ca, cb) := by
  obtain ⟨e0, a0, b0, hw⟩ := walk_cons hw
  obtain ⟨e1, a1, b1, hw⟩ := walk_cons hw
  obtain ⟨e2, a2, b2, hw⟩ := walk_cons hw
  obtain ⟨e3, a3, b3, hw⟩ := walk_cons hw
  obtain ⟨e4, a4, b4, hw⟩ := walk_cons hw
  obtain ⟨e5, a5, b5, hw⟩ := walk_cons hw
  obtain ⟨e6, a6, b6, hw⟩ := walk_cons hw
  obtain ⟨e7, a7, b7, hw⟩ := walk_cons hw
  obtain ⟨e8, a8, b8, hw⟩ := walk_cons hw
  refine ⟨_, hw, fun lv σ ca cb q1 q2 dd ss fl1 fl2 f g n h0 h1 o1 o2 hd hs hz n0 nf ng hf hg k => ?_⟩
  exact m_a1 a0 b0 h1 (m_gf a1 b1 o2 hs (m_z a2 b2 (m_a0 a3 b3 h0 (m_gf a4 b4 o1 hd (m_z a5 b5 (m_a0 a6 b6 h0 (m_gf a7 b7 o1 hz (m_ac a8 b8 hf hg n0 nf ng k))))))))
end MAC4
theorem gI_c0 {f g : List Int32} {n i : Nat} (h1 : n ≤ f.length) (h2 : n ≤ g.length) : gI (cpyL f g 0 0 n) i = if i < n then gI f i else gI g i := by
  unfold gI
  rw [List.getD_eq_getElem?_getD, cpyL_get (by omega) (by omega), if_neg (Nat.not_lt_zero i), Nat.zero_add]
  by_cases hi : i < n
  · rw [if_pos hi, if_pos hi, List.getD_eq_getElem?_getD, Nat.zero_add, Nat.sub_zero]
  · rw [if_neg hi, if_neg hi, List.getD_eq_getElem?_getD]
theorem okProg_cpy {t a b c t' a' b' c' : List Int32} {n : Nat} (hn : n ≤ 60) (h : okProg t a b c) (h' : okProg t' a' b' c') : okProg (cpyL t t' 0 0 n) (cpyL a a' 0 0 n) (cpyL b b' 0 0 n) (cpyL c c' 0 0 n) := by
  obtain ⟨⟨l1, l2, l3, l4⟩, hr⟩ := h
  obtain ⟨⟨l1', l2', l3', l4'⟩, hr'⟩ := h'
  refine ⟨⟨?_, ?_, ?_, ?_⟩, fun i hi => ?_⟩
  · rw [cpyL_len (by omega) (by omega)]; exact l1'
  · rw [cpyL_len (by omega) (by omega)]; exact l2'
  · rw [cpyL_len (by omega) (by omega)]; exact l3'
  · rw [cpyL_len (by omega) (by omega)]; exact l4'
  · rw [gI_c0 (by omega) (by omega), gI_c0 (by omega) (by omega), gI_c0 (by omega) (by omega), gI_c0 (by omega) (by omega)]
    by_cases hin : i < n
    · rw [if_pos hin, if_pos hin, if_pos hin, if_pos hin]
      exact hr i hi
    · rw [if_neg hin, if_neg hin, if_neg hin, if_neg hin]
      exact hr' i hi
noncomputable def any60 : AC := .inr (0, .inl [.inr (60, lo32, hi32)])
noncomputable def hasQ (l : List Nat) (pr : List PD) : Bool := pr.any (fun p => decide (p = (0, l, [])))
theorem hasQ_ok {l : List Nat} {pr : List PD} (h : hasQ l pr = true) : (0, l, []) ∈ pr := by
  obtain ⟨p, h1, h2⟩ := List.any_eq_true.mp h
  rw [← of_decide_eq_true h2]
  exact h1
noncomputable def isRowA (A : AH) (q : Nat) : Bool := match A[q]? with
  | some (.inr (k, .inl _)) => bif Nat.beq k 0 then true else Nat.beq k 100
  | _ => false
noncomputable def tAt (ex : Nat) (pc : Nat) (_ : XE) : Bool := decide (pc = ex)
noncomputable def mProg (H ci f zf ex : Nat) : MC := fun _ tb pc st lv A pr nx tab fs => bif Nat.beq pc H then (bif walk tb H (blkTs ci f zf ++ (blkTs ci (f + 1) zf ++ (blkTs ci (f + 2) zf ++ (blkTs ci (f + 3) zf ++ [tAt ex])))) then (match st, alGet 0 lv, alGet 1 lv with
  | [], some (.inr (.inl (some q1))), some (.inr (.inl (some q2))) => (match A[q1]?, A[q2]? with
    | some (.inl (c1, as1)), some (.inl (c2, as2)) => (match refAt as1 f, refAt as1 (f + 1), refAt as1 (f + 2), refAt as1 (f + 3), refAt as2 f, refAt as2 (f + 1), refAt as2 (f + 2), refAt as2 (f + 3), as1[zf]? with
      | some d1, some d2, some d3, some d4, some s1, some s2, some s3, some s4, some (.inl (false, e)) => bif (bif Nat.beq c1 ci then (bif Nat.beq c2 ci then (bif va_nd [d1, d2, d3, d4, s1, s2, s3, s4] then (bif isRowA A d1 && (isRowA A d2 && (isRowA A d3 && (isRowA A d4 && (isRowA A s1 && (isRowA A s2 && (isRowA A s3 && isRowA A s4)))))) then (bif hasQ [d1, d2, d3, d4] pr then (bif hasQ [s1, s2, s3, s4] pr then inF tab fs 0 60 e else false) else false) else false) else false) else false) else false) then some (ex, lv, (((A.set d1 any60).set d2 any60).set d3 any60).set d4 any60, (0, [d1, d2, d3, d4], []) :: prDel d4 (prDel d3 (prDel d2 (prDel d1 pr))), nx, tab, fs) else none
      | _, _, _, _, _, _, _, _, _ => none)
    | _, _ => none)
  | _, _, _ => none) else none) else none
theorem isRowA_ok {ρ : Nat → Int} {σ : SH} {A : AH} (hA : rel2 (crel ρ) σ A) {q : Nat} (h : isRowA A q = true) : ∃ l, σ[q]? = some (.inr (0, .inl l)) := by
  unfold isRowA at h
  split at h
  · rename_i k s hq
    obtain ⟨c, c1, c2⟩ := rel2_get hA hq
    cases z : Nat.beq k 0 with
    | true =>
      have e := Nat.eq_of_beq_eq_true z
      subst e
      obtain ⟨l, e1, -⟩ := crI_inv (by decide) c2
      exact ⟨l, by rw [c1, e1]⟩
    | false =>
      rw [z] at h
      have e := Nat.eq_of_beq_eq_true h
      subst e
      obtain ⟨l, e1, -⟩ := arel_con (by decide) c2
      exact ⟨l, by rw [c1, e1]⟩
  · cases h
theorem any60_ok {ρ : Nat → Int} {l : List Int32} (h : l.length = 60) : crel ρ (.inr (0, .inl l)) any60 :=
  arel_mk (by decide) ⟨l, [], by rw [List.append_nil], h, fun x _ => in32 x, rfl⟩
set_option maxHeartbeats 2000000 in
theorem mProg_ok (H ci f zf ex : Nat) : McOk PPk (mProg H ci f zf ex) := by
  intro ini o nL tb d Q pc st lv A pr nx tab fs pc' lv' A' pr' nx' tab' fs' ρ cst0 clv cσ h hr hp hlv
  unfold mProg at h
  cases z0 : Nat.beq pc H with
  | false => rw [z0] at h; cases h
  | true =>
    rw [z0] at h
    have epc := Nat.eq_of_beq_eq_true z0
    subst epc
    simp only [cond_true] at h
    cases hw : walk tb pc (blkTs ci f zf ++ (blkTs ci (f + 1) zf ++ (blkTs ci (f + 2) zf ++ (blkTs ci (f + 3) zf ++ [tAt ex])))) with
    | false => rw [hw] at h; cases h
    | true =>
      rw [hw] at h
      simp only [cond_true] at h
      split at h
      · rename_i q1 q2 h0 h1
        split at h
        · rename_i c1 as1 c2 as2 hA1 hA2
          split at h
          · rename_i d1 d2 d3 d4 s1 s2 s3 s4 e hd1 hd2 hd3 hd4 hs1 hs2 hs3 hs4 hz
            cases z : (bif Nat.beq c1 ci then (bif Nat.beq c2 ci then (bif va_nd [d1, d2, d3, d4, s1, s2, s3, s4] then (bif isRowA A d1 && (isRowA A d2 && (isRowA A d3 && (isRowA A d4 && (isRowA A s1 && (isRowA A s2 && (isRowA A s3 && isRowA A s4)))))) then (bif hasQ [d1, d2, d3, d4] pr then (bif hasQ [s1, s2, s3, s4] pr then inF tab fs 0 60 e else false) else false) else false) else false) else false) else false) with
            | false => rw [z] at h; cases h
            | true =>
              rw [z] at h
              cases h
              obtain ⟨z1, z⟩ := cand z
              obtain ⟨z2, z⟩ := cand z
              obtain ⟨z3, z⟩ := cand z
              obtain ⟨z4, z⟩ := cand z
              obtain ⟨z5, z⟩ := cand z
              obtain ⟨z6, z7⟩ := cand z
              have ec1 := Nat.eq_of_beq_eq_true z1
              have ec2 := Nat.eq_of_beq_eq_true z2
              subst ec1; subst ec2
              simp only [Bool.and_eq_true] at z4
              obtain ⟨w1, w2, w3, w4, w5, w6, w7, w8⟩ := z4
              obtain ⟨t1, t2, t3, t4, t5⟩ := hr ρ agr2.rf
              have hst : cst0 = [] := rel2_nil t3
              subst hst
              obtain ⟨v0, v01, v02⟩ := lvR_get t4 h0
              have e0 := vR_inv v02
              subst e0
              obtain ⟨v1, v11, v12⟩ := lvR_get t4 h1
              have e1 := vR_inv v12
              subst e1
              obtain ⟨co, co1, co2⟩ := rel2_get t5 hA1
              obtain ⟨fl1, co3, co4⟩ := crO_inv co2
              subst co3
              obtain ⟨cp, cp1, cp2⟩ := rel2_get t5 hA2
              obtain ⟨fl2, cp3, cp4⟩ := crO_inv cp2
              subst cp3
              obtain ⟨g1, x1⟩ := isRowA_ok t5 w1
              obtain ⟨g2, x2⟩ := isRowA_ok t5 w2
              obtain ⟨g3, x3⟩ := isRowA_ok t5 w3
              obtain ⟨g4, x4⟩ := isRowA_ok t5 w4
              obtain ⟨f1, y1⟩ := isRowA_ok t5 w5
              obtain ⟨f2, y2⟩ := isRowA_ok t5 w6
              obtain ⟨f3, y3⟩ := isRowA_ok t5 w7
              obtain ⟨f4, y4⟩ := isRowA_ok t5 w8
              obtain ⟨vz, vz1, vz2⟩ := rel2_get co4 hz
              obtain ⟨n, en1, en2⟩ := vI_inv vz2
              subst en1
              have hn := inF_ok t1 t2 z7
              rw [← en2] at hn
              have hn0 : (0 : Int32) ≤ n := by rw [Int32.le_iff_toInt_le]; exact hn.1
              have hcl : n.toNatClampNeg ≤ 60 := by
                have : n.toNatClampNeg = n.toInt.toNat := rfl
                rw [this]
                have := hn.2
                omega
              have nd : ∀ (i j a b : Nat), i ≠ j → [d1, d2, d3, d4, s1, s2, s3, s4][i]? = some a → [d1, d2, d3, d4, s1, s2, s3, s4][j]? = some b → a ≠ b := fun i j a b hij ha hb e => hij (va_nd_inj _ z3 i j a ha (e ▸ hb))
              have n12 := nd 0 1 d1 d2 (by decide) rfl rfl
              have n13 := nd 0 2 d1 d3 (by decide) rfl rfl
              have n14 := nd 0 3 d1 d4 (by decide) rfl rfl
              have n23 := nd 1 2 d2 d3 (by decide) rfl rfl
              have n24 := nd 1 3 d2 d4 (by decide) rfl rfl
              have n34 := nd 2 3 d3 d4 (by decide) rfl rfl
              have m12 := nd 0 5 d1 s2 (by decide) rfl rfl
              have m13 := nd 0 6 d1 s3 (by decide) rfl rfl
              have m14 := nd 0 7 d1 s4 (by decide) rfl rfl
              have m23 := nd 1 6 d2 s3 (by decide) rfl rfl
              have m24 := nd 1 7 d2 s4 (by decide) rfl rfl
              have m34 := nd 2 7 d3 s4 (by decide) rfl rfl
              have no : ∀ (q r : Nat) (l : List Int32) (c : Nat) (fl : List Value), cσ[q]? = some (.inr (0, .inl l)) → cσ[r]? = some (.inl (c, fl)) → q ≠ r := fun q r l c fl h1 h2 e => by
                subst e
                rw [h1] at h2
                cases h2
              have aD : ∀ {q : Nat} {l : List Int32}, cσ[q]? = some (.inr (0, .inl l)) → arrI (cσ.getD q (.inl (0, []))) = l := fun h => by
                rw [List.getD_eq_getElem?_getD, h]
                rfl
              have pd : okProg (arrI (cσ.getD d1 (.inl (0, [])))) (arrI (cσ.getD d2 (.inl (0, [])))) (arrI (cσ.getD d3 (.inl (0, [])))) (arrI (cσ.getD d4 (.inl (0, [])))) := hp ρ agr2.rf _ (hasQ_ok z5)
              have ps : okProg (arrI (cσ.getD s1 (.inl (0, [])))) (arrI (cσ.getD s2 (.inl (0, [])))) (arrI (cσ.getD s3 (.inl (0, [])))) (arrI (cσ.getD s4 (.inl (0, [])))) := hp ρ agr2.rf _ (hasQ_ok z6)
              rw [aD x1, aD x2, aD x3, aD x4] at pd
              rw [aD y1, aD y2, aD y3, aD y4] at ps
              obtain ⟨⟨ld1, ld2, ld3, ld4⟩, -⟩ := id pd
              obtain ⟨⟨ls1, ls2, ls3, ls4⟩, -⟩ := id ps
              let N := n.toNatClampNeg
              let σ1 := cσ.set d1 (.inr (0, .inl (cpyL f1 g1 0 0 N)))
              let σ2 := σ1.set d2 (.inr (0, .inl (cpyL f2 g2 0 0 N)))
              let σ3 := σ2.set d3 (.inr (0, .inl (cpyL f3 g3 0 0 N)))
              let σ4 := σ3.set d4 (.inr (0, .inl (cpyL f4 g4 0 0 N)))
              have r1 : ∀ q, d1 ≠ q → σ1[q]? = cσ[q]? := fun q hq => List.getElem?_set_ne hq
              have r2 : ∀ q, d1 ≠ q → d2 ≠ q → σ2[q]? = cσ[q]? := fun q hq hq2 => (List.getElem?_set_ne hq2).trans (r1 q hq)
              have r3 : ∀ q, d1 ≠ q → d2 ≠ q → d3 ≠ q → σ3[q]? = cσ[q]? := fun q hq hq2 hq3 => (List.getElem?_set_ne hq3).trans (r2 q hq hq2)
              have a1 := no d1 _ _ _ _ x1 co1
              have a2 := no d2 _ _ _ _ x2 co1
              have a3 := no d3 _ _ _ _ x3 co1
              have b1 := no d1 _ _ _ _ x1 cp1
              have b2 := no d2 _ _ _ _ x2 cp1
              have b3 := no d3 _ _ _ _ x3 cp1
              obtain ⟨pc1, hw, k1⟩ := m_blk (ini := ini) (o := o) (nL := nL) (d := d) (Q := Q) hw
              obtain ⟨pc2, hw, k2⟩ := m_blk (ini := ini) (o := o) (nL := nL) (d := d) (Q := Q) hw
              obtain ⟨pc3, hw, k3⟩ := m_blk (ini := ini) (o := o) (nL := nL) (d := d) (Q := Q) hw
              obtain ⟨pc4, hw, k4⟩ := m_blk (ini := ini) (o := o) (nL := nL) (d := d) (Q := Q) hw
              obtain ⟨ee, -, hex, -⟩ := walk_cons hw
              have hex' := of_decide_eq_true hex
              subst hex'
              have L1 : d1 < cσ.length := (List.getElem?_eq_some_iff.mp x1).1
              have L2 : d2 < cσ.length := (List.getElem?_eq_some_iff.mp x2).1
              have L3 : d3 < cσ.length := (List.getElem?_eq_some_iff.mp x3).1
              have L4 : d4 < cσ.length := (List.getElem?_eq_some_iff.mp x4).1
              have len1 : σ1.length = cσ.length := List.length_set
              have len2 : σ2.length = cσ.length := List.length_set.trans len1
              have len3 : σ3.length = cσ.length := List.length_set.trans len2
              have len4 : σ4.length = cσ.length := List.length_set.trans len3
              have hcy : ∀ {f g : List Int32}, f.length = 60 → g.length = 60 → (cpyL f g 0 0 N).length = 60 := fun {f g} hf hg => by
                rw [cpyL_len (by omega) (by omega)]
                exact hg
              refine ⟨clv, σ4, ρ, Nat.le_refl _, agr2.rf, fun ρ' ha => ⟨(hr ρ' ha).1, (hr ρ' ha).2.1, (hr ρ' ha).2.2.2.1, ?_⟩, fun ρ' ha => ?_, by rw [len4]; exact hlv, fun cca ccb hk => ?_⟩
              · exact rel2_set (rel2_set (rel2_set (rel2_set (hr ρ' ha).2.2.2.2 (any60_ok (hcy ls1 ld1))) (any60_ok (hcy ls2 ld2))) (any60_ok (hcy ls3 ld3))) (any60_ok (hcy ls4 ld4))
              · refine List.forall_mem_cons.mpr ⟨?_, prOk_set (prOk_set (prOk_set (prOk_set (hp ρ' ha) d1 _) d2 _) d3 _) d4 _⟩
                have q4 : arrI (σ4.getD d4 (.inl (0, []))) = cpyL f4 g4 0 0 N := by
                  rw [List.getD_eq_getElem?_getD, show σ4[d4]? = _ from List.getElem?_set_self (by rw [len3]; exact L4)]
                  rfl
                have q3 : arrI (σ4.getD d3 (.inl (0, []))) = cpyL f3 g3 0 0 N := by
                  rw [List.getD_eq_getElem?_getD, show σ4[d3]? = σ3[d3]? from List.getElem?_set_ne (fun e => n34 e.symm), show σ3[d3]? = _ from List.getElem?_set_self (by rw [len2]; exact L3)]
                  rfl
                have q2 : arrI (σ4.getD d2 (.inl (0, []))) = cpyL f2 g2 0 0 N := by
                  rw [List.getD_eq_getElem?_getD, show σ4[d2]? = σ3[d2]? from List.getElem?_set_ne (fun e => n24 e.symm), show σ3[d2]? = σ2[d2]? from List.getElem?_set_ne (fun e => n23 e.symm), show σ2[d2]? = _ from List.getElem?_set_self (by rw [len1]; exact L2)]
                  rfl
                have q1 : arrI (σ4.getD d1 (.inl (0, []))) = cpyL f1 g1 0 0 N := by
                  rw [List.getD_eq_getElem?_getD, show σ4[d1]? = σ3[d1]? from List.getElem?_set_ne (fun e => n14 e.symm), show σ3[d1]? = σ2[d1]? from List.getElem?_set_ne (fun e => n13 e.symm), show σ2[d1]? = σ1[d1]? from List.getElem?_set_ne (fun e => n12 e.symm), show σ1[d1]? = _ from List.getElem?_set_self L1]
                  rfl
                show okProg (arrI (σ4.getD d1 (.inl (0, [])))) (arrI (σ4.getD d2 (.inl (0, [])))) (arrI (σ4.getD d3 (.inl (0, [])))) (arrI (σ4.getD d4 (.inl (0, []))))
                rw [q1, q2, q3, q4]
                exact okProg_cpy hcl ps pd
              · have F1 := refAt_ok co4 hd1
                have F2 := refAt_ok co4 hd2
                have F3 := refAt_ok co4 hd3
                have F4 := refAt_ok co4 hd4
                have S1 := refAt_ok cp4 hs1
                have S2 := refAt_ok cp4 hs2
                have S3 := refAt_ok cp4 hs3
                have S4 := refAt_ok cp4 hs4
                refine k1 clv cσ cca ccb q1 q2 d1 s1 fl1 fl2 f1 g1 n v01 v11 co1 cp1 F1 S1 vz1 hn0 (by omega) (by omega) y1 x1 ?_
                refine k2 clv σ1 cca ccb q1 q2 d2 s2 fl1 fl2 f2 g2 n v01 v11 (by rw [r1 _ a1]; exact co1) (by rw [r1 _ b1]; exact cp1) F2 S2 vz1 hn0 (by omega) (by omega) (by rw [r1 _ m12]; exact y2) (by rw [r1 _ n12]; exact x2) ?_
                refine k3 clv σ2 cca ccb q1 q2 d3 s3 fl1 fl2 f3 g3 n v01 v11 (by rw [r2 _ a1 a2]; exact co1) (by rw [r2 _ b1 b2]; exact cp1) F3 S3 vz1 hn0 (by omega) (by omega) (by rw [r2 _ m13 m23]; exact y3) (by rw [r2 _ n13 n23]; exact x3) ?_
                exact k4 clv σ3 cca ccb q1 q2 d4 s4 fl1 fl2 f4 g4 n v01 v11 (by rw [r3 _ a1 a2 a3]; exact co1) (by rw [r3 _ b1 b2 b3]; exact cp1) F4 S4 vz1 hn0 (by omega) (by omega) (by rw [r3 _ m14 m24 m34]; exact y4) (by rw [r3 _ n14 n24 n34]; exact x4) hk
          · cases h
        · cases h
      · cases h
