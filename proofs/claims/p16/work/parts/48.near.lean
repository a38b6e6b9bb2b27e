/-! ===== clocks: long rows told, a division by two, rounds ===== -/
theorem ofI32 {z : Int} (h1 : -2147483648 ≤ z) (h2 : z ≤ 2147483647) : (Int32.ofInt z).toInt = z := by
  rw [Int32.toInt_ofInt]
  exact bmod32 h1 h2
theorem encX_0 (x : Int64) : (Int32.ofInt (x.toInt / 4294967296)).toInt = x.toInt / 4294967296 := by
  have h := in64 x
  have e1 : lo64 = -9223372036854775808 := rfl
  have e2 : hi64 = 9223372036854775807 := rfl
  exact ofI32 (by omega) (by omega)
theorem encX_1 (x : Int64) : (Int32.ofInt (x.toInt % 4294967296 - 2147483648)).toInt = x.toInt % 4294967296 - 2147483648 := ofI32 (by omega) (by omega)
theorem encX_get : ∀ (l : List Int64) (i : Nat), gI (l.flatMap encX) (2 * i) = (Int32.ofInt ((l.getD i 0).toInt / 4294967296)).toInt ∨ l.length ≤ i
  | [], i => Or.inr (Nat.zero_le _)
  | x :: r, 0 => Or.inl rfl
  | x :: r, i + 1 => by
    rcases encX_get r i with h | h
    · exact Or.inl h
    · exact Or.inr (Nat.succ_le_succ h)
theorem encX_get1 : ∀ (l : List Int64) (i : Nat), gI (l.flatMap encX) (2 * i + 1) = (Int32.ofInt ((l.getD i 0).toInt % 4294967296 - 2147483648)).toInt ∨ l.length ≤ i
  | [], i => Or.inr (Nat.zero_le _)
  | x :: r, 0 => Or.inl rfl
  | x :: r, i + 1 => by
    rcases encX_get1 r i with h | h
    · exact Or.inl h
    · exact Or.inr (Nat.succ_le_succ h)
theorem encX_len : ∀ l : List Int64, (l.flatMap encX).length = 2 * l.length
  | [] => rfl
  | x :: r => by
    rw [List.flatMap_cons, List.length_append, encX_len r, List.length_cons]
    show 2 + 2 * r.length = _
    omega
/-- what a word of a long row says -/
theorem long_v {l : List Int64} {i v : Int} (h : okLong (l.flatMap encX) i v) : ∃ n : Nat, i = n ∧ n < l.length ∧ (l.getD n 0).toInt = v := by
  obtain ⟨n, h1, h2, h3⟩ := h
  rw [encX_len] at h2
  have hn : n < l.length := by omega
  refine ⟨n, h1, hn, ?_⟩
  rcases encX_get l n with a | a
  · rcases encX_get1 l n with b | b
    · rw [a, b, encX_0, encX_1] at h3
      omega
    · omega
  · omega
theorem long_mk {l : List Int64} {n : Nat} (hn : n < l.length) : okLong (l.flatMap encX) n (l.getD n 0).toInt := by
  refine ⟨n, rfl, by rw [encX_len]; omega, ?_⟩
  rcases encX_get l n with a | a
  · rcases encX_get1 l n with b | b
    · rw [a, b, encX_0, encX_1]
      omega
    · omega
  · omega
theorem prJ {ρ : Nat → Int} {σ : SH} {pr : List PD} {q : Nat} {e v : Ln} {k : Nat} {l : List Int64} (h : prOk PPk ρ σ pr) (hm : (22, [q], [e, v]) ∈ pr) (hc : σ[q]? = some (.inr (k, .inr (.inl l)))) : okLong (l.flatMap encX) (ev ρ e) (ev ρ v) := by
  have h3 := h _ hm
  have h4 : okLong (arrJ (σ.getD q (.inl (0, [])))) (ev ρ e) (ev ρ v) := h3
  rw [List.getD_eq_getElem?_getD, hc] at h4
  exact h4
/-- the word of an element of a long row -/
noncomputable def fJ (q c : Nat) (p : PD) : Option Ln := bif Nat.beq p.1 22 then (match p.2.1, p.2.2 with
  | [q'], [e, v] => bif Nat.beq q q' then (match e with
    | (.ofNat c', []) => bif Nat.beq c c' then some v else none
    | _ => none) else none
  | _, _ => none) else none
theorem fJ_inv {q c : Nat} {p : PD} {v : Ln} (h : fJ q c p = some v) : p = (22, [q], [((.ofNat c), []), v]) := by
  obtain ⟨k, ls, ns⟩ := p
  unfold fJ at h
  cases hk : Nat.beq k 22 with
  | false => rw [hk] at h; cases h
  | true =>
    rw [hk, cond_true] at h
    have := Nat.eq_of_beq_eq_true hk
    subst this
    match ls, ns, h with
    | [q'], [(.ofNat c', []), v'], h =>
      cases h1 : Nat.beq q q' with
      | false => simp only [h1, cond_false] at h; cases h
      | true =>
        simp only [h1, cond_true] at h
        cases h2 : Nat.beq c c' with
        | false => rw [h2] at h; cases h
        | true =>
          rw [h2] at h
          cases h
          rw [Nat.eq_of_beq_eq_true h1, Nat.eq_of_beq_eq_true h2]
    | [q'], [(.negSucc c', []), v'], h => cases h1 : Nat.beq q q' <;> simp only [h1, cond_false, cond_true] at h <;> cases h
    | [q'], [(.ofNat c', _ :: _), v'], h => cases h1 : Nat.beq q q' <;> simp only [h1, cond_false, cond_true] at h <;> cases h
    | [q'], [(.negSucc c', _ :: _), v'], h => cases h1 : Nat.beq q q' <;> simp only [h1, cond_false, cond_true] at h <;> cases h
    | [q'], [], h => cases h
    | [q'], [_], h => cases h
    | [q'], _ :: _ :: _ :: _, h => cases h
    | [], _, h => cases h
    | _ :: _ :: _, _, h => cases h
noncomputable def tLl (_ : Nat) (e : XE) : Bool := match e with
  | (.laload, _, 3, _, _) => true
  | _ => false
noncomputable def tLs (_ : Nat) (e : XE) : Bool := match e with
  | (.lastore, _, 4, _, _) => true
  | _ => false
noncomputable def tLd2 (_ : Nat) (e : XE) : Bool := match e with
  | (.ldiv, _, 0, _, _) => true
  | _ => false
/-- a told element is loaded -/
noncomputable def mLL (P : Nat) : MC := fun _ tb pc st lv A pr nx tab fs => bif Nat.beq pc P then (match tbGet tb pc with
  | some e => bif tLl pc e then (match st with
    | .inl (false, i) :: .inr (.inl (some q)) :: r => (match cst tab i, A[q]? with
      | some (.ofNat c), some (.inr (k, .inr (.inl m))) => bif (bif Nat.beq k 1 then Nat.blt c (jLen m) else false) then (match pr.findSome? (fJ q c) with
        | some v => some (pc + e.2.1, .inl (true, v) :: r, lv, A, pr, nx, tab, fs)
        | none => none) else none
      | _, _ => none)
    | _ => none) else none
  | none => none) else none
theorem nat_of {x : Int32} {c : Nat} (h : x.toInt = (c : Int)) : 0 ≤ x ∧ x.toNatClampNeg = c := by
  have h0 : (0 : Int32).toInt = 0 := rfl
  refine ⟨?_, ?_⟩
  · rw [Int32.le_iff_toInt_le, h0, h]
    omega
  · show x.toInt.toNat = c
    rw [h]
    rfl
theorem inB_c {x : Int32} {c n : Nat} (h : x.toInt = (c : Int)) (hn : c < n) : inB x n = true := by
  obtain ⟨h1, h2⟩ := nat_of h
  unfold inB
  rw [h2, decide_eq_true h1, decide_eq_true hn]
  rfl
theorem mLL_ok (P : Nat) : McOk PPk (mLL P) := by
  intro ini o nL tb d Q pc st lv A pr nx tab fs pc' st' lv' A' pr' nx' tab' fs' ρ cst0 clv cσ hM hr hp hlv
  unfold mLL at hM
  obtain ⟨-, hM⟩ : _ ∧ _ := by
    cases z : Nat.beq pc P with
    | false => rw [z] at hM; cases hM
    | true => rw [z, cond_true] at hM; exact ⟨trivial, hM⟩
  split at hM
  · rename_i e he
    cases ht : tLl pc e with
    | false => rw [ht] at hM; cases hM
    | true =>
      rw [ht, cond_true] at hM
      split at hM
      · rename_i i q r
        split at hM
        · rename_i c k m hc hA
          cases hb : (bif Nat.beq k 1 then Nat.blt c (jLen m) else false) with
          | false => rw [hb] at hM; cases hM
          | true =>
            rw [hb, cond_true] at hM
            obtain ⟨b1, b2⟩ := cand hb
            have hk := Nat.eq_of_beq_eq_true b1
            subst hk
            have hcl := blt_iff.mp b2
            split at hM
            · rename_i v hf
              cases hM
              obtain ⟨p, hm, hp1⟩ := List.exists_of_findSome?_eq_some hf
              have hpe := fJ_inv hp1
              subst hpe
              obtain ⟨t1, t2, t3, t4, t5⟩ := hr ρ agr2.rf
              obtain ⟨v1, c1, e1, h1, hs1⟩ := rel2_cons t3
              obtain ⟨v2, c2, e2, h2, hs2⟩ := rel2_cons hs1
              obtain ⟨x, e3, h3⟩ := vI_inv h1
              have e4 := vR_inv h2
              subst e1; subst e2; subst e3; subst e4
              obtain ⟨cc, hc1, hc2⟩ := rel2_get t5 hA
              obtain ⟨l, e5, h5⟩ := crJ_inv hc2
              subst e5
              have hxc : x.toInt = (c : Int) := by
                rw [h3]
                exact cst_ok t1 hc
              have hlen : c < l.length := by rw [h5.1]; exact hcl
              have hin := inB_c hxc hlen
              refine ⟨.long (l.getD c 0) :: c2, clv, cσ, ρ, Nat.le_refl _, agr2.rf, fun ρ' ha => ?_, hp, hlv, fun cca ccb hg => ?_⟩
              · obtain ⟨u1, u2, u3, u4, u5⟩ := hr ρ' ha
                obtain ⟨w1, d1, f1, -, hs1'⟩ := rel2_cons u3
                cases f1
                obtain ⟨w2, d2, f2, -, hs2'⟩ := rel2_cons hs1'
                cases f2
                refine ⟨u1, u2, ⟨⟨l.getD c 0, rfl, ?_⟩, hs2'⟩, u4, u5⟩
                have h6 := prJ (hp ρ' ha) hm hc1
                rw [show ev ρ' ((.ofNat c, []) : Ln) = (c : Int) from ev_k ρ' c] at h6
                obtain ⟨n, g1, g2, g3⟩ := long_v h6
                have : n = c := by
                  have g1' : (c : Int) = n := g1
                  omega
                subst this
                exact g3
              · refine Good.step ?_ hg
                obtain ⟨i0, len, g, a, b, w⟩ := e
                unfold tLl at ht
                split at ht
                · rename_i heq
                  cases heq
                  simp only [nxt, he, stepD, hc1]
                  rw [if_pos ⟨trivial, hin⟩, (nat_of hxc).2]
                  rfl
                · cases ht
            · cases hM
        · cases hM
      · cases hM
  · cases hM
/-- words that a store at place c of a long row q leaves -/
noncomputable def keepJ (q c : Nat) (p : PD) : Bool := bif memN q p.2.1 then (bif Nat.beq p.1 22 then (match p.2.1, p.2.2 with
  | [q'], [e, _] => bif Nat.beq q q' then (match e with
    | (.ofNat c', []) => bif Nat.beq c c' then false else true
    | _ => false) else false
  | _, _ => false) else false) else true
theorem keepJ_inv {q c : Nat} {p : PD} (h : keepJ q c p = true) : q ∉ p.2.1 ∨ ∃ (c' : Nat) (v : Ln), p = (22, [q], [((.ofNat c'), []), v]) ∧ c ≠ c' := by
  obtain ⟨k, ls, ns⟩ := p
  unfold keepJ at h
  cases hm : memN q ls with
  | false => exact Or.inl (fun x => by rw [memN_iff.mpr x] at hm; cases hm)
  | true =>
    simp only [hm, cond_true] at h
    cases hk : Nat.beq k 22 with
    | false => rw [hk] at h; cases h
    | true =>
      rw [hk, cond_true] at h
      have := Nat.eq_of_beq_eq_true hk
      subst this
      match ls, ns, h with
      | [q'], [(.ofNat c', []), v'], h =>
        cases h1 : Nat.beq q q' with
        | false => simp only [h1, cond_false] at h; cases h
        | true =>
          simp only [h1, cond_true] at h
          cases h2 : Nat.beq c c' with
          | true => rw [h2] at h; cases h
          | false => exact Or.inr ⟨c', v', by rw [Nat.eq_of_beq_eq_true h1], fun e => by rw [e, Nat.beq_refl] at h2; cases h2⟩
      | [q'], [(.negSucc c', []), v'], h => cases h1 : Nat.beq q q' <;> simp only [h1, cond_false, cond_true] at h <;> cases h
      | [q'], [(.ofNat c', _ :: _), v'], h => cases h1 : Nat.beq q q' <;> simp only [h1, cond_false, cond_true] at h <;> cases h
      | [q'], [(.negSucc c', _ :: _), v'], h => cases h1 : Nat.beq q q' <;> simp only [h1, cond_false, cond_true] at h <;> cases h
      | [q'], [], h => cases h
      | [q'], [_], h => cases h
      | [q'], _ :: _ :: _ :: _, h => cases h
      | [], _, h => cases h
      | _ :: _ :: _, _, h => cases h
theorem getD_set (l : List Int64) (a b : Nat) (y : Int64) : (l.set a y).getD b 0 = if a = b ∧ b < l.length then y else l.getD b 0 := by
  rw [List.getD_eq_getElem?_getD, List.getD_eq_getElem?_getD, List.getElem?_set]
  by_cases h : a = b
  · subst h
    by_cases h2 : a < l.length
    · rw [if_pos rfl, if_pos h2, if_pos ⟨rfl, h2⟩]
      rfl
    · rw [if_pos rfl, if_neg h2, if_neg (fun q => h2 q.2), List.getElem?_eq_none (by omega)]
  · rw [if_neg h, if_neg (fun q => h q.1)]
/-- an element stored is told -/
noncomputable def mLS (P : Nat) : MC := fun _ tb pc st lv A pr nx tab fs => bif Nat.beq pc P then (match tbGet tb pc with
  | some e => bif tLs pc e then (match st with
    | .inl (true, w) :: .inl (false, i) :: .inr (.inl (some q)) :: r => (match cst tab i, A[q]? with
      | some (.ofNat c), some (.inr (k, .inr (.inl m))) => bif (bif Nat.beq k 1 then (bif Nat.blt c (jLen m) then Nat.blt (jLen m) zB else false) else false) then some (pc + e.2.1, r, lv, A.set q (.inr (k, .inr (.inl (jSt tab m w)))), (22, [q], [((.ofNat c), []), w]) :: pr.filter (keepJ q c), nx, tab, fs) else none
      | _, _ => none)
    | _ => none) else none
  | none => none) else none
theorem mLS_ok (P : Nat) : McOk PPk (mLS P) := by
  intro ini o nL tb d Q pc st lv A pr nx tab fs pc' st' lv' A' pr' nx' tab' fs' ρ cst0 clv cσ hM hr hp hlv
  unfold mLS at hM
  obtain ⟨-, hM⟩ : _ ∧ _ := by
    cases z : Nat.beq pc P with
    | false => rw [z] at hM; cases hM
    | true => rw [z, cond_true] at hM; exact ⟨trivial, hM⟩
  split at hM
  · rename_i e he
    cases ht : tLs pc e with
    | false => rw [ht] at hM; cases hM
    | true =>
      rw [ht, cond_true] at hM
      split at hM
      · rename_i w i q r _
        split at hM
        · rename_i c k m hc hA
          cases hb : (bif Nat.beq k 1 then (bif Nat.blt c (jLen m) then Nat.blt (jLen m) zB else false) else false) with
          | false => rw [hb] at hM; cases hM
          | true =>
            rw [hb, cond_true] at hM
            obtain ⟨b1, b2⟩ := cand hb
            obtain ⟨b2, b3⟩ := cand b2
            have hk := Nat.eq_of_beq_eq_true b1
            subst hk
            have hcl := blt_iff.mp b2
            cases hM
            obtain ⟨t1, t2, t3, t4, t5⟩ := hr ρ agr2.rf
            obtain ⟨v0, c0, e0, h0, hs0⟩ := rel2_cons t3
            obtain ⟨v1, c1, e1, h1, hs1⟩ := rel2_cons hs0
            obtain ⟨v2, c2, e2, h2, hs2⟩ := rel2_cons hs1
            obtain ⟨y, e3', h0'⟩ := (h0 : ∃ y : Int64, v0 = .long y ∧ y.toInt = ev ρ w)
            obtain ⟨x, e3, h3⟩ := vI_inv h1
            have e4 := vR_inv h2
            subst e0; subst e1; subst e2; subst e3; subst e3'; subst e4
            obtain ⟨cc, hc1, hc2⟩ := rel2_get t5 hA
            obtain ⟨l, e5, h5⟩ := crJ_inv hc2
            subst e5
            have hxc : x.toInt = (c : Int) := by
              rw [h3]
              exact cst_ok t1 hc
            have hlen : c < l.length := by rw [h5.1]; exact hcl
            have hin := inB_c hxc hlen
            have hqlt := (List.getElem?_eq_some_iff.mp hc1).1
            refine ⟨c2, clv, cσ.set q (.inr (1, .inr (.inl (l.set c y)))), ρ, Nat.le_refl _, agr2.rf, fun ρ' ha => ?_, fun ρ' ha => ?_, by rw [List.length_set]; exact hlv, fun cca ccb hg => ?_⟩
            · obtain ⟨u1, u2, u3, u4, u5⟩ := hr ρ' ha
              obtain ⟨w0, d0, f0, g0, hs0'⟩ := rel2_cons u3
              cases f0
              obtain ⟨w1, d1, f1, -, hs1'⟩ := rel2_cons hs0'
              cases f1
              obtain ⟨w2, d2, f2, -, hs2'⟩ := rel2_cons hs1'
              cases f2
              obtain ⟨y', f3, g3⟩ := (g0 : ∃ y' : Int64, Value.long y = .long y' ∧ y'.toInt = ev ρ' w)
              cases f3
              obtain ⟨cc', hc1', hc2'⟩ := rel2_get u5 hA
              rw [hc1] at hc1'
              cases hc1'
              obtain ⟨l', e5', h5'⟩ := crJ_inv hc2'
              cases e5'
              exact ⟨u1, u2, hs2', u4, rel2_set u5 ⟨_, rfl, jSt_ok u1 h5' g3 b3⟩⟩
            · obtain ⟨u1, u2, u3, u4, u5⟩ := hr ρ' ha
              obtain ⟨w0, d0, f0, g0, hs0'⟩ := rel2_cons u3
              cases f0
              obtain ⟨y', f3, g3⟩ := (g0 : ∃ y' : Int64, Value.long y = .long y' ∧ y'.toInt = ev ρ' w)
              cases f3
              have hget : (cσ.set q (.inr (1, .inr (.inl (l.set c y))))).getD q (.inl (0, [])) = .inr (1, .inr (.inl (l.set c y))) := by
                rw [List.getD_eq_getElem?_getD, List.getElem?_set_self hqlt]
                rfl
              have mk : ∀ {n : Nat} {v : Ln}, n < l.length → ((l.set c y).getD n 0).toInt = ev ρ' v → PPk 22 (([q] : List Nat).map (fun i => arrK 22 ((cσ.set q (.inr (1, .inr (.inl (l.set c y))))).getD i (.inl (0, []))))) ([(((.ofNat n), []) : Ln), v].map (ev ρ')) := fun {n v} hn hv => by
                show okLong (arrJ ((cσ.set q (.inr (1, .inr (.inl (l.set c y))))).getD q (.inl (0, [])))) (ev ρ' (((.ofNat n), []) : Ln)) (ev ρ' v)
                rw [hget, show ev ρ' (((.ofNat n), []) : Ln) = (n : Int) from ev_k ρ' n, ← hv]
                exact long_mk (by rw [List.length_set]; exact hn)
              refine List.forall_mem_cons.mpr ⟨mk hlen (by rw [getD_set, if_pos ⟨rfl, hlen⟩]; exact g3), fun p hq => ?_⟩
              obtain ⟨q1, q2⟩ := List.mem_filter.mp hq
              rcases keepJ_inv q2 with q3 | ⟨c', v', q3, q4⟩
              · have h6 := hp ρ' ha p q1
                have e : p.2.1.map (fun i => arrK p.1 ((cσ.set q (.inr (1, .inr (.inl (l.set c y))))).getD i (.inl (0, [])))) = p.2.1.map (fun i => arrK p.1 (cσ.getD i (.inl (0, [])))) := List.map_congr_left fun i hi => by
                  have hne : q ≠ i := fun e => by
                    subst e
                    exact q3 hi
                  rw [List.getD_eq_getElem?_getD, List.getD_eq_getElem?_getD, List.getElem?_set_ne hne]
                rw [e]
                exact h6
              · subst q3
                have h6 := prJ (hp ρ' ha) q1 hc1
                rw [show ev ρ' (((.ofNat c'), []) : Ln) = (c' : Int) from ev_k ρ' c'] at h6
                obtain ⟨n, g1, g2, g4⟩ := long_v h6
                have : n = c' := by omega
                subst this
                exact mk g2 (by rw [getD_set, if_neg (fun z => q4 z.1)]; exact g4)
            · refine Good.step ?_ hg
              obtain ⟨i0, len, g, a, b, w0⟩ := e
              unfold tLs at ht
              split at ht
              · rename_i heq
                cases heq
                simp only [nxt, he, stepE, hc1]
                rw [if_pos ⟨trivial, hin⟩, (nat_of hxc).2]
                rfl
              · cases ht
        · cases hM
      · cases hM
  · cases hM
theorem td2 (a : Int) : (0 ≤ a ∧ Int.tdiv a 2 = a / 2) ∨ (a < 0 ∧ Int.tdiv a 2 = -((-a) / 2)) := by
  by_cases h : 0 ≤ a
  · exact Or.inl ⟨h, Int.tdiv_eq_ediv_of_nonneg h⟩
  · refine Or.inr ⟨by omega, ?_⟩
    have e : Int.tdiv a 2 = - Int.tdiv (-a) 2 := by
      rw [Int.neg_tdiv, Int.neg_neg]
    rw [e, Int.tdiv_eq_ediv_of_nonneg (by omega)]
theorem div2_64 (x : Int64) : (x / 2).toInt = Int.tdiv x.toInt 2 := by
  have h := in64 x
  have e1 : lo64 = -9223372036854775808 := rfl
  have e2 : hi64 = 9223372036854775807 := rfl
  have e3 : (2 : Int64).toInt = 2 := rfl
  rw [Int64.toInt_div, e3]
  have h2 : -9223372036854775808 ≤ Int.tdiv x.toInt 2 ∧ Int.tdiv x.toInt 2 ≤ 9223372036854775807 := by
    rcases td2 x.toInt with ⟨a, b⟩ | ⟨a, b⟩ <;> rw [b] <;> omega
  rw [Int.bmod_eq_of_le (by omega) (by omega)]
noncomputable def loT (tab : Tb) (s : Ln) : Int := match lb tab s with
  | some l => Int.tdiv l 2
  | none => lo64
noncomputable def hiT (tab : Tb) (s : Ln) : Int := match ub tab s with
  | some l => Int.tdiv l 2
  | none => hi64
/-- a division by two: the answer is told -/
noncomputable def mLD (P : Nat) : MC := fun _ tb pc st lv A pr nx tab fs => bif Nat.beq pc P then (match tbGet tb pc with
  | some e => bif tLd2 pc e then (match st with
    | .inl (true, b) :: .inl (true, s) :: r => (match cst tab b with
      | some (.ofNat 2) => some (pc + e.2.1, .inl (true, sL nx) :: r, lv, A, (23, [], [s, sL nx]) :: pr, Nat.succ nx, tbIns nx (loT tab s) (hiT tab s) tab, fs)
      | _ => none)
    | _ => none) else none
  | none => none) else none
theorem mLD_ok (P : Nat) : McOk PPk (mLD P) := by
  intro ini o nL tb d Q pc st lv A pr nx tab fs pc' st' lv' A' pr' nx' tab' fs' ρ cst0 clv cσ hM hr hp hlv
  unfold mLD at hM
  obtain ⟨-, hM⟩ : _ ∧ _ := by
    cases z : Nat.beq pc P with
    | false => rw [z] at hM; cases hM
    | true => rw [z, cond_true] at hM; exact ⟨trivial, hM⟩
  split at hM
  · rename_i e he
    cases ht : tLd2 pc e with
    | false => rw [ht] at hM; cases hM
    | true =>
      rw [ht, cond_true] at hM
      split at hM
      · rename_i b s r _
        split at hM
        · rename_i hc
          cases hM
          obtain ⟨t1, t2, t3, t4, t5⟩ := hr ρ agr2.rf
          obtain ⟨v0, c0, e0, h0, hs0⟩ := rel2_cons t3
          obtain ⟨v1, c1, e1, h1, hs1⟩ := rel2_cons hs0
          obtain ⟨y, e3, h3⟩ := (h0 : ∃ y : Int64, v0 = .long y ∧ y.toInt = ev ρ b)
          obtain ⟨x, e4, h4⟩ := (h1 : ∃ x : Int64, v1 = .long x ∧ x.toInt = ev ρ s)
          subst e0; subst e1; subst e3; subst e4
          have hy : y = 2 := by
            have e := cst_ok t1 hc
            rw [← h3] at e
            have e2 : y.toInt = (2 : Int64).toInt := e
            exact Int64.toInt_inj.mp e2
          subst hy
          have hag : ∀ {ρ'}, agr2 (Nat.succ nx) (fun j => if j = nx then (x / 2).toInt else ρ j) ρ' → agr2 nx ρ ρ' ∧ ρ' nx = (x / 2).toInt := fun {ρ'} ha => ⟨fun j hj => (ha j (Nat.lt_succ_of_lt hj)).trans (if_neg (by omega)), (ha nx (Nat.lt_succ_self nx)).trans (if_pos rfl)⟩
          have hsx : ∀ ρ', agr2 nx ρ ρ' → x.toInt = ev ρ' s ∧ rel2 (vrel ρ') c1 r := fun ρ' ha => by
            obtain ⟨u1, u2, u3, u4, u5⟩ := hr ρ' ha
            obtain ⟨w0, d0, f0, -, hs0'⟩ := rel2_cons u3
            cases f0
            obtain ⟨w1, d1, f1, g1, hs1'⟩ := rel2_cons hs0'
            cases f1
            obtain ⟨x', f4, g4⟩ := (g1 : ∃ x' : Int64, Value.long x = .long x' ∧ x'.toInt = ev ρ' s)
            cases f4
            exact ⟨g4, hs1'⟩
          refine ⟨.long (x / 2) :: c1, clv, cσ, fun j => if j = nx then (x / 2).toInt else ρ j, Nat.le_succ nx, fun j hj => if_neg (by omega), fun ρ' ha => ?_, fun ρ' ha => ?_, hlv, fun cca ccb hg => ?_⟩
          · obtain ⟨ha0, ha1⟩ := hag ha
            obtain ⟨u1, u2, u3, u4, u5⟩ := hr ρ' ha0
            obtain ⟨g4, hs1'⟩ := hsx ρ' ha0
            have hv := div2_64 x
            refine ⟨tOk_cons u1 ?_ ?_, u2, ⟨⟨x / 2, rfl, by rw [ev_s, ha1]⟩, hs1'⟩, u4, u5⟩
            · rw [ha1]
              unfold loT
              split
              · rename_i l hl
                have h6 := lb_ok u1 hl
                rw [← g4] at h6
                rw [hv]
                rcases td2 x.toInt with ⟨a1, a2⟩ | ⟨a1, a2⟩ <;> rcases td2 l with ⟨a3, a4⟩ | ⟨a3, a4⟩ <;> rw [a2, a4] <;> omega
              · exact (in64 _).1
            · rw [ha1]
              unfold hiT
              split
              · rename_i l hl
                have h6 := ub_ok u1 hl
                rw [← g4] at h6
                rw [hv]
                rcases td2 x.toInt with ⟨a1, a2⟩ | ⟨a1, a2⟩ <;> rcases td2 l with ⟨a3, a4⟩ | ⟨a3, a4⟩ <;> rw [a2, a4] <;> omega
              · exact (in64 _).2
          · obtain ⟨ha0, ha1⟩ := hag ha
            obtain ⟨g4, -⟩ := hsx ρ' ha0
            refine List.forall_mem_cons.mpr ⟨?_, hp ρ' ha0⟩
            show ev ρ' (sL nx) = Int.tdiv (ev ρ' s) 2
            rw [ev_s, ha1, ← g4]
            exact div2_64 x
          · refine Good.step ?_ hg
            obtain ⟨i0, len, g, a, b', w0⟩ := e
            unfold tLd2 at ht
            split at ht
            · rename_i heq
              cases heq
              simp only [nxt, he, stepA, blN]
              rw [if_neg (by decide)]
              rfl
            · cases ht
        · cases hM
      · cases hM
  · cases hM
-- orders found out of what is known
noncomputable def insS (tab : Tb) (fs : List Ln) (v : Ln) : List Ln → Option (List Ln)
  | [] => some [v]
  | a :: r => bif le0 tab fs (pluL (subL v a) 1) then (match insS tab fs v r with
    | some q => some (a :: q)
    | none => none) else bif le0 tab fs (subL a v) then some (v :: a :: r) else none
noncomputable def sortS (tab : Tb) (fs : List Ln) : List Ln → List Ln → Option (List Ln)
  | acc, [] => some acc
  | acc, v :: r => match insS tab fs v acc with
    | some q => sortS tab fs q r
    | none => none
section ORD
variable {ρ : Nat → Int} {tab : Tb} {fs : List Ln}
theorem insS_ok (ht : tOk ρ tab) (hf : fOk ρ fs) {v : Ln} : ∀ {l q : List Ln}, insS tab fs v l = some q → q.map (ev ρ) = insD (ev ρ v) (l.map (ev ρ)) := by
  intro l
  induction l with
  | nil => intro q h; cases h; rfl
  | cons a r ih =>
    intro q h
    unfold insS at h
    show _ = (if ev ρ v < ev ρ a then ev ρ a :: insD (ev ρ v) (r.map (ev ρ)) else ev ρ v :: ev ρ a :: r.map (ev ρ))
    cases h1 : le0 tab fs (pluL (subL v a) 1) with
    | true =>
      rw [h1, cond_true] at h
      have g := le0_ok ht hf h1
      rw [ev_plu, ev_sub] at g
      rw [if_pos (by omega)]
      cases h2 : insS tab fs v r with
      | none => rw [h2] at h; cases h
      | some q' =>
        rw [h2] at h
        cases h
        rw [List.map_cons, ih h2]
    | false =>
      rw [h1, cond_false] at h
      cases h2 : le0 tab fs (subL a v) with
      | false => rw [h2] at h; cases h
      | true =>
        rw [h2, cond_true] at h
        cases h
        have g := le0_ok ht hf h2
        rw [ev_sub] at g
        rw [if_neg (by omega)]
        rfl
theorem sortS_ok (ht : tOk ρ tab) (hf : fOk ρ fs) : ∀ {l acc q : List Ln}, sortS tab fs acc l = some q → q.map (ev ρ) = (l.map (ev ρ)).foldl (fun l v => insD v l) (acc.map (ev ρ)) := by
  intro l
  induction l with
  | nil => intro acc q h; cases h; rfl
  | cons v r ih =>
    intro acc q h
    unfold sortS at h
    split at h
    · rename_i q1 h1
      rw [ih h, insS_ok ht hf h1]
      rfl
    · cases h
/-- half of a sum, told -/
noncomputable def f23 (tab : Tb) (fs : List Ln) (s : Ln) (p : PD) : Option Ln := bif Nat.beq p.1 23 then (match p.2.1, p.2.2 with
  | [], [x, q] => bif eqL tab fs x s then some q else none
  | _, _ => none) else none
theorem f23_ok {cσ : SH} {pr : List PD} {s q : Ln} {p : PD} (ht : tOk ρ tab) (hf : fOk ρ fs) (hp : prOk PPk ρ cσ pr) (hm : p ∈ pr) (h : f23 tab fs s p = some q) : ev ρ q = Int.tdiv (ev ρ s) 2 := by
  obtain ⟨k, ls, ns⟩ := p
  unfold f23 at h
  cases hk : Nat.beq k 23 with
  | false => rw [hk] at h; cases h
  | true =>
    rw [hk, cond_true] at h
    have := Nat.eq_of_beq_eq_true hk
    subst this
    match ls, ns, h with
    | [], [x, q'], h =>
      cases h1 : eqL tab fs x s with
      | false => simp only [h1, cond_false] at h; cases h
      | true =>
        simp only [h1, cond_true] at h
        cases h
        have h3 : ev ρ q = Int.tdiv (ev ρ x) 2 := hp _ hm
        rw [h3, eqL_ok ht hf h1]
    | [], [], h => cases h
    | [], [_], h => cases h
    | [], _ :: _ :: _ :: _, h => cases h
    | _ :: _, _, h => cases h
noncomputable def halfS (tab : Tb) (fs : List Ln) (pr : List PD) (s : Ln) : Option Ln := pr.findSome? (f23 tab fs s)
theorem halfS_ok {cσ : SH} {pr : List PD} {s q : Ln} (ht : tOk ρ tab) (hf : fOk ρ fs) (hp : prOk PPk ρ cσ pr) (h : halfS tab fs pr s = some q) : ev ρ q = Int.tdiv (ev ρ s) 2 := by
  obtain ⟨p, hm, h1⟩ := List.exists_of_findSome?_eq_some h
  exact f23_ok ht hf hp hm h1
noncomputable def midS (tab : Tb) (fs : List Ln) (pr : List PD) (as : List Ln) : Option Ln := match sortS tab fs [] as with
  | some d => bif Nat.beq (Nat.mod as.length 2) 1 then d[Nat.div as.length 2]? else (match d[Nat.div as.length 2]?, d[Nat.sub (Nat.div as.length 2) 1]? with
    | some a, some b => halfS tab fs pr (addL a b)
    | _, _ => none)
  | none => none
theorem getD_map {d : List Ln} {i : Nat} {m : Ln} (h : d[i]? = some m) : (d.map (ev ρ)).getD i 0 = ev ρ m := by
  rw [List.getD_eq_getElem?_getD, List.getElem?_map, h]
  rfl
theorem midS_ok {cσ : SH} {pr : List PD} {as : List Ln} {m : Ln} (ht : tOk ρ tab) (hf : fOk ρ fs) (hp : prOk PPk ρ cσ pr) (h : midS tab fs pr as = some m) : ev ρ m = midZ (as.map (ev ρ)) := by
  unfold midS at h
  split at h
  · rename_i d hd
    have hs : d.map (ev ρ) = sortD (as.map (ev ρ)) := sortS_ok ht hf hd
    unfold midZ
    rw [List.length_map, ← hs]
    cases h1 : Nat.beq (Nat.mod as.length 2) 1 with
    | true =>
      rw [h1, cond_true] at h
      rw [if_pos (Nat.eq_of_beq_eq_true h1 : as.length % 2 = 1)]
      exact (getD_map h).symm
    | false =>
      rw [h1, cond_false] at h
      rw [if_neg (fun e : as.length % 2 = 1 => by rw [show Nat.mod as.length 2 = 1 from e] at h1; cases h1)]
      split at h
      · rename_i a b ha hb
        rw [halfS_ok ht hf hp h, ev_add, ← getD_map ha, ← getD_map hb]
        rfl
      · cases h
  · cases h
/-- told elements of a long row -/
noncomputable def elsJ (q : Nat) (pr : List PD) : Nat → Nat → Option (List Ln)
  | 0, _ => some []
  | n + 1, i => match pr.findSome? (fJ q i), elsJ q pr n (Nat.succ i) with
    | some v, some r => some (v :: r)
    | _, _ => none
/-- elements of int rows -/
noncomputable def elsA (A : AH) : List (Nat × Nat) → Option (List Ln)
  | [] => some []
  | (q, i) :: r => match elA A q i, elsA A r with
    | some v, some l => some (v :: l)
    | _, _ => none
noncomputable def eqLs (tab : Tb) (fs : List Ln) : List Ln → List Ln → Bool
  | [], [] => true
  | a :: r, b :: s => bif eqL tab fs a b then eqLs tab fs r s else false
  | _, _ => false
theorem eqLs_ok (ht : tOk ρ tab) (hf : fOk ρ fs) : ∀ {a b : List Ln}, eqLs tab fs a b = true → a.map (ev ρ) = b.map (ev ρ)
  | [], [], _ => rfl
  | a :: r, b :: s, h => by
    obtain ⟨h1, h2⟩ := cand h
    rw [List.map_cons, List.map_cons, eqL_ok ht hf h1, eqLs_ok ht hf h2]
  | [], _ :: _, h => by cases h
  | _ :: _, [], h => by cases h
noncomputable def addLs : List Ln → List Ln → List Ln
  | a :: r, b :: s => addL a b :: addLs r s
  | _, _ => []
theorem addLs_ok : ∀ a b : List Ln, (addLs a b).map (ev ρ) = addZ (a.map (ev ρ)) (b.map (ev ρ))
  | [], _ => rfl
  | _ :: _, [] => rfl
  | a :: r, b :: s => by
    show ev ρ (addL a b) :: (addLs r s).map (ev ρ) = (ev ρ a + ev ρ b) :: addZ (r.map (ev ρ)) (s.map (ev ρ))
    rw [ev_add, addLs_ok r s]
/-- each is within -b .. b -/
noncomputable def inAll (tab : Tb) (fs : List Ln) (lo hi : Int) (l : List Ln) : Bool := l.all (inF tab fs lo hi)
theorem inAll_ok (ht : tOk ρ tab) (hf : fOk ρ fs) {lo hi : Int} {l : List Ln} (h : inAll tab fs lo hi l = true) : ∀ a ∈ l.map (ev ρ), lo ≤ a ∧ a ≤ hi := fun a ha => by
  obtain ⟨e, he, rfl⟩ := List.mem_map.mp ha
  exact inF_ok ht hf (List.all_eq_true.mp h e he)
end ORD
-- what the numbers stay within
theorem insD_mem {v b : Int} : ∀ {l : List Int}, b ∈ insD v l → b = v ∨ b ∈ l := by
  intro l
  induction l with
  | nil => intro h; exact Or.inl (List.mem_singleton.mp h)
  | cons a r ih =>
    intro h
    unfold insD at h
    split at h
    · rcases List.mem_cons.mp h with h | h
      · exact Or.inr (h ▸ List.mem_cons_self)
      · exact (ih h).imp id (List.mem_cons_of_mem _)
    · rcases List.mem_cons.mp h with h | h
      · exact Or.inl h
      · exact Or.inr h
theorem sortD_mem {b : Int} : ∀ {l acc : List Int}, b ∈ l.foldl (fun l v => insD v l) acc → b ∈ l ∨ b ∈ acc := by
  intro l
  induction l with
  | nil => intro acc h; exact Or.inr h
  | cons v r ih =>
    intro acc h
    rcases ih h with h | h
    · exact Or.inl (List.mem_cons_of_mem _ h)
    · rcases insD_mem h with h | h
      · exact Or.inl (h ▸ List.mem_cons_self)
      · exact Or.inr h
theorem getD_in {B : Int} {d : List Int} (h : ∀ a ∈ d, -B ≤ a ∧ a ≤ B) (hB : 0 ≤ B) (i : Nat) : -B ≤ d.getD i 0 ∧ d.getD i 0 ≤ B := by
  rw [List.getD_eq_getElem?_getD]
  cases hi : d[i]? with
  | none => exact ⟨by show -B ≤ (0 : Int); omega, hB⟩
  | some a => exact h a (List.mem_of_getElem? hi)
theorem midZ_in {B : Int} {as : List Int} (h : ∀ a ∈ as, -B ≤ a ∧ a ≤ B) (hB : 0 ≤ B) : -B ≤ midZ as ∧ midZ as ≤ B := by
  have hs : ∀ a ∈ sortD as, -B ≤ a ∧ a ≤ B := fun a ha => by
    rcases sortD_mem ha with h1 | h1
    · exact h a h1
    · cases h1
  unfold midZ
  split
  · exact getD_in hs hB _
  · have g1 := getD_in hs hB (as.length / 2)
    have g2 := getD_in hs hB (as.length / 2 - 1)
    rcases td2 ((sortD as).getD (as.length / 2) 0 + (sortD as).getD (as.length / 2 - 1) 0) with ⟨a, b⟩ | ⟨a, b⟩ <;> rw [b] <;> omega
theorem addZ_len : ∀ {x r : List Int}, x.length = r.length → (addZ x r).length = x.length
  | [], [], _ => rfl
  | a :: x, b :: r, h => congrArg Nat.succ (addZ_len (Nat.succ.inj h))
  | [], _ :: _, h => by cases h
  | _ :: _, [], h => by cases h
theorem addZ_in {B C : Int} : ∀ {x r : List Int}, (∀ a ∈ x, -B ≤ a ∧ a ≤ B) → (∀ a ∈ r, -C ≤ a ∧ a ≤ C) → ∀ a ∈ addZ x r, -(B + C) ≤ a ∧ a ≤ B + C
  | a :: x, b :: r, h1, h2, c, hc => by
    rcases List.mem_cons.mp hc with hc | hc
    · have g1 := h1 a List.mem_cons_self
      have g2 := h2 b List.mem_cons_self
      omega
    · exact addZ_in (fun a ha => h1 a (List.mem_cons_of_mem _ ha)) (fun a ha => h2 a (List.mem_cons_of_mem _ ha)) c hc
  | [], _, _, _, c, hc => by cases hc
  | _ :: _, [], _, _, c, hc => by cases hc
theorem roundZ_in {B C : Int} {x r : List Int} (hB : 0 ≤ B) (hC : 0 ≤ C) (h1 : ∀ a ∈ x, -B ≤ a ∧ a ≤ B) (h2 : ∀ a ∈ r, -C ≤ a ∧ a ≤ C) : ∀ a ∈ roundZ x r, -(B + C) ≤ a ∧ a ≤ B + C := fun a ha => by
  unfold roundZ at ha
  obtain ⟨y, hy, rfl⟩ := List.mem_map.mp ha
  have g1 := addZ_in h1 h2 y hy
  have g2 := midZ_in (addZ_in h1 h2) (by omega)
  rcases td2 (midZ (addZ x r) - y) with ⟨p, q⟩ | ⟨p, q⟩ <;> rw [q] <;> omega
theorem roundZ_len {x r : List Int} (h : x.length = r.length) : (roundZ x r).length = x.length := by
  unfold roundZ
  rw [List.length_map, addZ_len h]
theorem iterZ_len {t r : List Int} (h : t.length = r.length) : ∀ j : Nat, (iterZ t r j).length = t.length
  | 0 => rfl
  | j + 1 => by
    have ih := iterZ_len h j
    show (roundZ (iterZ t r j) r).length = _
    rw [roundZ_len (by omega), ih]
theorem iterZ_in {t r : List Int} (h : okCl t r) : ∀ j : Nat, ∀ a ∈ iterZ t r j, -(1000000 + 1000 * (j : Int)) ≤ a ∧ a ≤ 1000000 + 1000 * (j : Int)
  | 0 => fun a ha => by
    have g := h.2.1 a ha
    exact ⟨by show -(1000000 + 1000 * (0 : Int)) ≤ a; omega, by show a ≤ 1000000 + 1000 * (0 : Int); omega⟩
  | j + 1 => fun a ha => by
    have ih := iterZ_in h j
    have g := roundZ_in (B := 1000000 + 1000 * (j : Int)) (C := 1000) (by omega) (by omega) ih h.2.2 a ha
    have e : ((j + 1 : Nat) : Int) = (j : Int) + 1 := by omega
    rw [e]
    omega
-- the span
theorem foldMax {l : List Int} : ∀ {a : Int}, (∀ b, b = a ∨ b ∈ l → b ≤ l.foldl (fun m x => if m < x then x else m) a) ∧ (l.foldl (fun m x => if m < x then x else m) a = a ∨ l.foldl (fun m x => if m < x then x else m) a ∈ l) := by
  induction l with
  | nil =>
    intro a
    refine ⟨fun b hb => ?_, Or.inl rfl⟩
    rcases hb with hb | hb
    · rw [hb]; exact Int.le_refl _
    · cases hb
  | cons x r ih =>
    intro a
    obtain ⟨h1, h2⟩ := ih (a := if a < x then x else a)
    refine ⟨fun b hb => ?_, ?_⟩
    · have g := h1 _ (Or.inl rfl)
      show b ≤ r.foldl (fun m x => if m < x then x else m) (if a < x then x else a)
      rcases hb with hb | hb
      · subst hb
        split at g <;> split <;> omega
      · rcases List.mem_cons.mp hb with hb | hb
        · subst hb
          split at g <;> split <;> omega
        · exact h1 b (Or.inr hb)
    · show r.foldl (fun m x => if m < x then x else m) (if a < x then x else a) = a ∨ r.foldl (fun m x => if m < x then x else m) (if a < x then x else a) ∈ x :: r
      rcases h2 with h2 | h2
      · rw [h2]
        by_cases hx : a < x
        · rw [if_pos hx]; exact Or.inr List.mem_cons_self
        · rw [if_neg hx]; exact Or.inl rfl
      · exact Or.inr (List.mem_cons_of_mem _ h2)
theorem foldMin {l : List Int} : ∀ {a : Int}, (∀ b, b = a ∨ b ∈ l → l.foldl (fun m x => if x < m then x else m) a ≤ b) ∧ (l.foldl (fun m x => if x < m then x else m) a = a ∨ l.foldl (fun m x => if x < m then x else m) a ∈ l) := by
  induction l with
  | nil =>
    intro a
    refine ⟨fun b hb => ?_, Or.inl rfl⟩
    rcases hb with hb | hb
    · rw [hb]; exact Int.le_refl _
    · cases hb
  | cons x r ih =>
    intro a
    obtain ⟨h1, h2⟩ := ih (a := if x < a then x else a)
    refine ⟨fun b hb => ?_, ?_⟩
    · have g := h1 _ (Or.inl rfl)
      show r.foldl (fun m x => if x < m then x else m) (if x < a then x else a) ≤ b
      rcases hb with hb | hb
      · subst hb
        split at g <;> split <;> omega
      · rcases List.mem_cons.mp hb with hb | hb
        · subst hb
          split at g <;> split <;> omega
        · exact h1 b (Or.inr hb)
    · show r.foldl (fun m x => if x < m then x else m) (if x < a then x else a) = a ∨ r.foldl (fun m x => if x < m then x else m) (if x < a then x else a) ∈ x :: r
      rcases h2 with h2 | h2
      · rw [h2]
        by_cases hx : x < a
        · rw [if_pos hx]; exact Or.inr List.mem_cons_self
        · rw [if_neg hx]; exact Or.inl rfl
      · exact Or.inr (List.mem_cons_of_mem _ h2)
theorem maxZ_ok {x : List Int} (h : x ≠ []) : (∀ b ∈ x, b ≤ maxZ x) ∧ maxZ x ∈ x := by
  match x, h with
  | a :: r, _ =>
    obtain ⟨h1, h2⟩ := foldMax (l := r) (a := a)
    refine ⟨fun b hb => h1 b (List.mem_cons.mp hb), ?_⟩
    show r.foldl _ a ∈ _
    rcases h2 with h2 | h2
    · rw [h2]; exact List.mem_cons_self
    · exact List.mem_cons_of_mem _ h2
theorem minZ_ok {x : List Int} (h : x ≠ []) : (∀ b ∈ x, minZ x ≤ b) ∧ minZ x ∈ x := by
  match x, h with
  | a :: r, _ =>
    obtain ⟨h1, h2⟩ := foldMin (l := r) (a := a)
    refine ⟨fun b hb => h1 b (List.mem_cons.mp hb), ?_⟩
    show r.foldl _ a ∈ _
    rcases h2 with h2 | h2
    · rw [h2]; exact List.mem_cons_self
    · exact List.mem_cons_of_mem _ h2
theorem offZ_ge {x : List Int} : ∀ K : Nat, 0 ≤ offZ x K ∧ ∀ k, k < K → x.getD (k / x.length) 0 - x.getD (k % x.length) 0 ≤ offZ x K := by
  intro K
  induction K with
  | zero => exact ⟨Int.le_refl _, fun k hk => by omega⟩
  | succ K ih =>
    obtain ⟨h1, h2⟩ := ih
    have e : offZ x (K + 1) = if offZ x K < x.getD (K / x.length) 0 - x.getD (K % x.length) 0 then x.getD (K / x.length) 0 - x.getD (K % x.length) 0 else offZ x K := rfl
    rw [e]
    refine ⟨by split <;> omega, fun k hk => ?_⟩
    by_cases hk2 : k = K
    · subst hk2
      split <;> omega
    · have := h2 k (by omega)
      split <;> omega
theorem offZ_le {x : List Int} {B : Int} (hB : 0 ≤ B) : ∀ K : Nat, (∀ k, k < K → x.getD (k / x.length) 0 - x.getD (k % x.length) 0 ≤ B) → offZ x K ≤ B := by
  intro K
  induction K with
  | zero => intro _; exact hB
  | succ K ih =>
    intro h
    have h1 := ih (fun k hk => h k (by omega))
    have h2 := h K (by omega)
    have e : offZ x (K + 1) = if offZ x K < x.getD (K / x.length) 0 - x.getD (K % x.length) 0 then x.getD (K / x.length) 0 - x.getD (K % x.length) 0 else offZ x K := rfl
    rw [e]
    split <;> omega
theorem getD_mem {x : List Int} {i : Nat} (h : i < x.length) : x.getD i 0 ∈ x := by
  rw [List.getD_eq_getElem?_getD, List.getElem?_eq_getElem h]
  exact List.getElem_mem h
theorem span_off {x : List Int} (h : x ≠ []) : offZ x (x.length * x.length) = spanZ x := by
  obtain ⟨m1, m2⟩ := maxZ_ok h
  obtain ⟨n1, n2⟩ := minZ_ok h
  have hl : 0 < x.length := List.length_pos_iff.mpr h
  have g0 : 0 ≤ spanZ x := by
    have := n1 _ m2
    show 0 ≤ maxZ x - minZ x
    omega
  have a1 : offZ x (x.length * x.length) ≤ spanZ x := offZ_le g0 _ fun k hk => by
    have b1 : k / x.length < x.length := Nat.div_lt_of_lt_mul hk
    have b2 : k % x.length < x.length := Nat.mod_lt _ hl
    have c1 := m1 _ (getD_mem b1)
    have c2 := n1 _ (getD_mem b2)
    show _ ≤ maxZ x - minZ x
    omega
  obtain ⟨i, hi⟩ := List.getElem?_of_mem m2
  obtain ⟨j, hj⟩ := List.getElem?_of_mem n2
  have hil := (List.getElem?_eq_some_iff.mp hi).1
  have hjl := (List.getElem?_eq_some_iff.mp hj).1
  have hk : i * x.length + j < x.length * x.length := by
    have : (i + 1) * x.length ≤ x.length * x.length := Nat.mul_le_mul_right _ hil
    rw [Nat.succ_mul] at this
    omega
  have a2 := (offZ_ge (x := x) (x.length * x.length)).2 (i * x.length + j) hk
  rw [show (i * x.length + j) / x.length = i by rw [Nat.mul_comm, Nat.mul_add_div hl, Nat.div_eq_of_lt hjl, Nat.add_zero], show (i * x.length + j) % x.length = j by rw [Nat.mul_comm, Nat.mul_add_mod, Nat.mod_eq_of_lt hjl], List.getD_eq_getElem?_getD, List.getD_eq_getElem?_getD, hi, hj] at a2
  have a3 : maxZ x - minZ x ≤ offZ x (x.length * x.length) := a2
  exact Int.le_antisymm a1 a3
-- hints
theorem elsJ_ok {ρ : Nat → Int} {cσ : SH} {pr : List PD} {q : Nat} (hp : prOk PPk ρ cσ pr) : ∀ {n i : Nat} {l : List Ln}, elsJ q pr n i = some l → l.length = n
  | 0, i, l, h => by cases h; rfl
  | n + 1, i, l, h => by
    unfold elsJ at h
    split at h
    · rename_i v r hv hr
      cases h
      rw [List.length_cons, elsJ_ok hp hr]
    · cases h
/-- the rounds' word: so many clocks -/
noncomputable def f25 (N : Nat) (p : PD) : Option (Ln × List Ln × List Ln × List Ln) := bif Nat.beq p.1 25 then (match p.2.1, p.2.2 with
  | [], n :: j :: l => (match n with
    | (.ofNat m, []) => bif (bif Nat.beq m N then Nat.beq l.length (Nat.mul 3 N) else false) then some (j, l.take N, (l.drop N).take N, (l.drop N).drop N) else none
    | _ => none)
  | _, _ => none) else none
theorem f25_ok {ρ : Nat → Int} {cσ : SH} {pr : List PD} {N : Nat} {p : PD} {j : Ln} {t r x : List Ln} (hp : prOk PPk ρ cσ pr) (hm : p ∈ pr) (h : f25 N p = some (j, t, r, x)) : t.length = N ∧ r.length = N ∧ x.length = N ∧ ∃ J : Nat, ev ρ j = J ∧ J ≤ 100 ∧ okCl (t.map (ev ρ)) (r.map (ev ρ)) ∧ x.map (ev ρ) = iterZ (t.map (ev ρ)) (r.map (ev ρ)) J := by
  obtain ⟨k, ls, ns⟩ := p
  unfold f25 at h
  cases hk : Nat.beq k 25 with
  | false => rw [hk] at h; cases h
  | true =>
    rw [hk, cond_true] at h
    have := Nat.eq_of_beq_eq_true hk
    subst this
    match ls, ns, h with
    | [], (.ofNat m, []) :: j' :: l, h =>
      cases hb : (bif Nat.beq m N then Nat.beq l.length (Nat.mul 3 N) else false) with
      | false => simp only [hb, cond_false] at h; cases h
      | true =>
        simp only [hb, cond_true] at h
        obtain ⟨b1, b2⟩ := cand hb
        have e1 := Nat.eq_of_beq_eq_true b1
        have e2 : l.length = 3 * N := Nat.eq_of_beq_eq_true b2
        subst e1
        cases h
        have h3 : okIt (ev ρ ((.ofNat m, []) : Ln)) (ev ρ j) (l.map (ev ρ)) := hp _ hm
        rw [show ev ρ ((.ofNat m, []) : Ln) = (m : Int) from ev_k ρ m] at h3
        obtain ⟨J, T, R, X, g1, g2, g3, g4, g5, g6⟩ := h3
        have hT : T.length = m := by omega
        have hR : R.length = m := by rw [← g5.1]; exact hT
        have q1 : (l.take m).map (ev ρ) = T := by rw [List.map_take, g4, ← hT, List.take_left]
        have q2 : (l.drop m).map (ev ρ) = R ++ X := by rw [List.map_drop, g4, ← hT, List.drop_left]
        have q3 : ((l.drop m).take m).map (ev ρ) = R := by rw [List.map_take, q2, ← hR, List.take_left]
        have q4 : ((l.drop m).drop m).map (ev ρ) = X := by rw [List.map_drop, q2, ← hR, List.drop_left]
        refine ⟨by rw [List.length_take]; omega, by rw [List.length_take, List.length_drop]; omega, by rw [List.length_drop, List.length_drop]; omega, J, g2, g3, ?_, ?_⟩
        · rw [q1, q3]; exact g5
        · rw [q1, q3, q4]; exact g6
    | [], (.negSucc m, []) :: j' :: l, h => cases h
    | [], (.ofNat m, _ :: _) :: j' :: l, h => cases h
    | [], (.negSucc m, _ :: _) :: j' :: l, h => cases h
    | [], [], h => cases h
    | [], [_], h => cases h
    | _ :: _, _, h => cases h
theorem it_mk {ρ : Nat → Int} {N : Nat} {j : Ln} {t r x : List Ln} {J : Nat} (ht : t.length = N) (hj : ev ρ j = J) (hJ : J ≤ 100) (hc : okCl (t.map (ev ρ)) (r.map (ev ρ))) (hx : x.map (ev ρ) = iterZ (t.map (ev ρ)) (r.map (ev ρ)) J) : PPk 25 [] (((((.ofNat N, []) : Ln) :: j :: (t ++ (r ++ x)))).map (ev ρ)) := by
  show okIt (ev ρ ((.ofNat N, []) : Ln)) (ev ρ j) ((t ++ (r ++ x)).map (ev ρ))
  rw [show ev ρ ((.ofNat N, []) : Ln) = (N : Int) from ev_k ρ N]
  refine ⟨J, t.map (ev ρ), r.map (ev ρ), x.map (ev ρ), by rw [List.length_map, ht], hj, hJ, ?_, hc, hx⟩
  rw [List.map_append, List.map_append]
/-- numbers of kinds that may be left out -/
noncomputable def noX (p : PD) : Bool := bif Nat.ble 23 p.1 then Nat.ble 27 p.1 else true
noncomputable def hIt0 (P N qt : Nat) (T R : List (Nat × Nat)) : HF := fun pc _ A pr nx tab fs => bif Nat.beq pc P then (match elsA A T, elsA A R, elsJ qt pr N 0 with
  | some t, some r, some x => bif (bif Nat.beq t.length N then (bif Nat.beq r.length N then (bif eqLs tab fs x t then (bif inAll tab fs (.negSucc 999999) (.ofNat 1000000) t then inAll tab fs (.negSucc 999) (.ofNat 1000) r else false) else false) else false) else false) then some [(A, (25, [], (.ofNat N, []) :: kL 0 :: (t ++ (r ++ x))) :: pr, nx, tab, fs)] else none
  | _, _, _ => none) else none
theorem hIt0_ok (P N qt : Nat) (T R : List (Nat × Nat)) : HFOk PPk (hIt0 P N qt T R) := by
  intro pc lv A pr nx tab fs L ρ clv cσ h hr hp
  unfold hIt0 at h
  cases z : Nat.beq pc P with
  | false => rw [z] at h; cases h
  | true =>
    rw [z, cond_true] at h
    split at h
    · rename_i t r x h1 h2 h3
      cases hb : (bif Nat.beq t.length N then (bif Nat.beq r.length N then (bif eqLs tab fs x t then (bif inAll tab fs (.negSucc 999999) (.ofNat 1000000) t then inAll tab fs (.negSucc 999) (.ofNat 1000) r else false) else false) else false) else false) with
      | false => rw [hb] at h; cases h
      | true =>
        rw [hb] at h
        cases h
        obtain ⟨b1, hb⟩ := cand hb
        obtain ⟨b2, hb⟩ := cand hb
        obtain ⟨b3, hb⟩ := cand hb
        obtain ⟨b4, b5⟩ := cand hb
        refine ⟨_, List.mem_cons_self, hGood0 (fun ρ' ha => ⟨(hr ρ' ha).1, (hr ρ' ha).2.1, (hr ρ' ha).2.2.2⟩) (fun ρ' ha => List.forall_mem_cons.mpr ⟨?_, hp ρ' ha⟩)⟩
        obtain ⟨u1, u2, -⟩ := hr ρ' ha
        exact it_mk (J := 0) (Nat.eq_of_beq_eq_true b1) (ev_k ρ' 0) (by omega) ⟨by rw [List.length_map, List.length_map, Nat.eq_of_beq_eq_true b1, Nat.eq_of_beq_eq_true b2], inAll_ok u1 u2 b4, inAll_ok u1 u2 b5⟩ (eqLs_ok u1 u2 b3)
    · cases h
/-- the middle of told elements -/
noncomputable def hMid (P N qt ml : Nat) : HF := fun pc lv A pr nx tab fs => bif Nat.beq pc P then (match alGet ml lv, elsJ qt pr N 0 with
  | some (.inl (true, m)), some as => (match midS tab fs pr as with
    | some m' => bif eqL tab fs m m' then some [(A, (24, [], m :: as) :: pr, nx, tab, fs)] else none
    | none => none)
  | _, _ => none) else none
theorem hMid_ok (P N qt ml : Nat) : HFOk PPk (hMid P N qt ml) := by
  intro pc lv A pr nx tab fs L ρ clv cσ h hr hp
  unfold hMid at h
  cases z : Nat.beq pc P with
  | false => rw [z] at h; cases h
  | true =>
    rw [z, cond_true] at h
    split at h
    · rename_i m as h1 h2
      split at h
      · rename_i m' h3
        cases hb : eqL tab fs m m' with
        | false => rw [hb] at h; cases h
        | true =>
          rw [hb] at h
          cases h
          refine ⟨_, List.mem_cons_self, hGood0 (fun ρ' ha => ⟨(hr ρ' ha).1, (hr ρ' ha).2.1, (hr ρ' ha).2.2.2⟩) (fun ρ' ha => List.forall_mem_cons.mpr ⟨?_, hp ρ' ha⟩)⟩
          obtain ⟨u1, u2, -⟩ := hr ρ' ha
          show ev ρ' m = midZ (as.map (ev ρ'))
          rw [eqL_ok u1 u2 hb]
          exact midS_ok u1 u2 (hp ρ' ha) h3
      · cases h
    · cases h
noncomputable def f24 (tab : Tb) (fs : List Ln) (as : List Ln) (p : PD) : Option Ln := bif Nat.beq p.1 24 then (match p.2.1, p.2.2 with
  | [], m :: bs => bif eqLs tab fs bs as then some m else none
  | _, _ => none) else none
theorem f24_ok {ρ : Nat → Int} {cσ : SH} {pr : List PD} {tab : Tb} {fs as : List Ln} {p : PD} {m : Ln} (ht : tOk ρ tab) (hf : fOk ρ fs) (hp : prOk PPk ρ cσ pr) (hm : p ∈ pr) (h : f24 tab fs as p = some m) : ev ρ m = midZ (as.map (ev ρ)) := by
  obtain ⟨k, ls, ns⟩ := p
  unfold f24 at h
  cases hk : Nat.beq k 24 with
  | false => rw [hk] at h; cases h
  | true =>
    rw [hk, cond_true] at h
    have := Nat.eq_of_beq_eq_true hk
    subst this
    match ls, ns, h with
    | [], m' :: bs, h =>
      cases h1 : eqLs tab fs bs as with
      | false => simp only [h1, cond_false] at h; cases h
      | true =>
        simp only [h1, cond_true] at h
        cases h
        have h3 : ev ρ m = midZ (bs.map (ev ρ)) := hp _ hm
        rw [h3, eqLs_ok ht hf h1]
    | [], [], h => cases h
    | _ :: _, _, h => cases h
noncomputable def halves (tab : Tb) (fs : List Ln) (pr : List PD) (m : Ln) : List Ln → Option (List Ln)
  | [] => some []
  | a :: r => match halfS tab fs pr (subL m a), halves tab fs pr m r with
    | some q, some l => some (addL a q :: l)
    | _, _ => none
theorem halves_ok {ρ : Nat → Int} {cσ : SH} {pr : List PD} {tab : Tb} {fs : List Ln} {m : Ln} (ht : tOk ρ tab) (hf : fOk ρ fs) (hp : prOk PPk ρ cσ pr) : ∀ {as l : List Ln}, halves tab fs pr m as = some l → l.map (ev ρ) = (as.map (ev ρ)).map (fun a => a + Int.tdiv (ev ρ m - a) 2)
  | [], l, h => by cases h; rfl
  | a :: r, l, h => by
    unfold halves at h
    split at h
    · rename_i q l' h1 h2
      cases h
      rw [List.map_cons, List.map_cons, List.map_cons, halves_ok ht hf hp h2, ev_add, halfS_ok ht hf hp h1, ev_sub]
    · cases h
noncomputable def bndF (y : List Ln) : List Ln := y.flatMap (fun a => [pluL a (.negSucc 1099999), subL (kL (.negSucc 1099999)) a])
/-- a round is over -/
noncomputable def hRound (P N qt : Nat) : HF := fun pc _ A pr nx tab fs => bif Nat.beq pc P then (match pr.findSome? (f25 N), elsJ qt pr N 0 with
  | some (j, t, r, x), some y => (match pr.findSome? (f24 tab fs (addLs x r)) with
    | some m => (match halves tab fs pr m (addLs x r) with
      | some y' => bif (bif eqLs tab fs y y' then le0 tab fs (pluL j (.negSucc 98)) else false) then some [(A, (25, [], (.ofNat N, []) :: pluL j 1 :: (t ++ (r ++ y))) :: pr.filter noX, nx, tab, bndF y ++ fs)] else none
      | none => none)
    | none => none)
  | _, _ => none) else none
theorem hRound_ok (P N qt : Nat) : HFOk PPk (hRound P N qt) := by
  intro pc lv A pr nx tab fs L ρ clv cσ h hr hp
  unfold hRound at h
  cases z : Nat.beq pc P with
  | false => rw [z] at h; cases h
  | true =>
    rw [z, cond_true] at h
    split at h
    · rename_i j t r x y h1 h2
      split at h
      · rename_i m h3
        split at h
        · rename_i y' h4
          cases hb : (bif eqLs tab fs y y' then le0 tab fs (pluL j (.negSucc 98)) else false) with
          | false => rw [hb] at h; cases h
          | true =>
            rw [hb] at h
            cases h
            obtain ⟨b1, b2⟩ := cand hb
            obtain ⟨p1, m1, f1⟩ := List.exists_of_findSome?_eq_some h1
            obtain ⟨p2, m2, f2⟩ := List.exists_of_findSome?_eq_some h3
            have key : ∀ ρ', agr2 nx ρ ρ' → t.length = N ∧ ∃ J : Nat, ev ρ' (pluL j 1) = J ∧ J ≤ 100 ∧ okCl (t.map (ev ρ')) (r.map (ev ρ')) ∧ y.map (ev ρ') = iterZ (t.map (ev ρ')) (r.map (ev ρ')) J := fun ρ' ha => by
              obtain ⟨u1, u2, -⟩ := hr ρ' ha
              obtain ⟨g1, g2, g3, J, g4, g5, g6, g7⟩ := f25_ok (hp ρ' ha) m1 f1
              have e1 := f24_ok u1 u2 (hp ρ' ha) m2 f2
              have e2 := halves_ok u1 u2 (hp ρ' ha) h4
              have e3 := eqLs_ok u1 u2 b1
              have e4 := le0_ok u1 u2 b2
              rw [ev_plu] at e4
              refine ⟨g1, J + 1, by rw [ev_plu, g4]; rfl, by omega, g6, ?_⟩
              rw [e3, e2, e1, addLs_ok, g7]
              rfl
            refine ⟨_, List.mem_cons_self, hGood0 (fun ρ' ha => ⟨(hr ρ' ha).1, fun f hf => ?_, (hr ρ' ha).2.2.2⟩) (fun ρ' ha => List.forall_mem_cons.mpr ⟨?_, fun p hq => hp ρ' ha p (List.mem_filter.mp hq).1⟩)⟩
            · rcases List.mem_append.mp hf with hf | hf
              · obtain ⟨g1, J, g4, g5, g6, g7⟩ := key ρ' ha
                obtain ⟨a, ha1, ha2⟩ := List.mem_flatMap.mp hf
                have g8 := iterZ_in g6 J (ev ρ' a) (by rw [← g7]; exact List.mem_map.mpr ⟨a, ha1, rfl⟩)
                rcases List.mem_cons.mp ha2 with e | e
                · rw [e, ev_plu]
                  omega
                · rw [List.mem_singleton.mp e, ev_sub, ev_k]
                  omega
              · exact (hr ρ' ha).2.1 f hf
            · obtain ⟨g1, J, g4, g5, g6, g7⟩ := key ρ' ha
              exact it_mk g1 g4 g5 g6 g7
        · cases h
      · cases h
    · cases h
noncomputable def maxS (tab : Tb) (fs : List Ln) : Ln → List Ln → Option Ln
  | m, [] => some m
  | m, x :: r => bif le0 tab fs (pluL (subL m x) 1) then maxS tab fs x r else bif le0 tab fs (subL x m) then maxS tab fs m r else none
noncomputable def minS (tab : Tb) (fs : List Ln) : Ln → List Ln → Option Ln
  | m, [] => some m
  | m, x :: r => bif le0 tab fs (pluL (subL x m) 1) then minS tab fs x r else bif le0 tab fs (subL m x) then minS tab fs m r else none
theorem maxS_ok {ρ : Nat → Int} {tab : Tb} {fs : List Ln} (ht : tOk ρ tab) (hf : fOk ρ fs) : ∀ {l : List Ln} {m q : Ln}, maxS tab fs m l = some q → ev ρ q = (l.map (ev ρ)).foldl (fun m x => if m < x then x else m) (ev ρ m) := by
  intro l
  induction l with
  | nil => intro m q h; cases h; rfl
  | cons x r ih =>
    intro m q h
    unfold maxS at h
    show _ = (r.map (ev ρ)).foldl (fun m x => if m < x then x else m) (if ev ρ m < ev ρ x then ev ρ x else ev ρ m)
    cases h1 : le0 tab fs (pluL (subL m x) 1) with
    | true =>
      rw [h1, cond_true] at h
      have g := le0_ok ht hf h1
      rw [ev_plu, ev_sub] at g
      rw [if_pos (by omega)]
      exact ih h
    | false =>
      rw [h1, cond_false] at h
      cases h2 : le0 tab fs (subL x m) with
      | false => rw [h2] at h; cases h
      | true =>
        rw [h2, cond_true] at h
        have g := le0_ok ht hf h2
        rw [ev_sub] at g
        rw [if_neg (by omega)]
        exact ih h
theorem minS_ok {ρ : Nat → Int} {tab : Tb} {fs : List Ln} (ht : tOk ρ tab) (hf : fOk ρ fs) : ∀ {l : List Ln} {m q : Ln}, minS tab fs m l = some q → ev ρ q = (l.map (ev ρ)).foldl (fun m x => if x < m then x else m) (ev ρ m) := by
  intro l
  induction l with
  | nil => intro m q h; cases h; rfl
  | cons x r ih =>
    intro m q h
    unfold minS at h
    show _ = (r.map (ev ρ)).foldl (fun m x => if x < m then x else m) (if ev ρ x < ev ρ m then ev ρ x else ev ρ m)
    cases h1 : le0 tab fs (pluL (subL x m) 1) with
    | true =>
      rw [h1, cond_true] at h
      have g := le0_ok ht hf h1
      rw [ev_plu, ev_sub] at g
      rw [if_pos (by omega)]
      exact ih h
    | false =>
      rw [h1, cond_false] at h
      cases h2 : le0 tab fs (subL m x) with
      | false => rw [h2] at h; cases h
      | true =>
        rw [h2, cond_true] at h
        have g := le0_ok ht hf h2
        rw [ev_sub] at g
        rw [if_neg (by omega)]
        exact ih h
theorem near_mk {ρ : Nat → Int} {N : Nat} {res j : Ln} {t r : List Ln} {J : Nat} (ht : t.length = N) (hj : ev ρ j = J) (hJ : J ≤ 100) (hc : okCl (t.map (ev ρ)) (r.map (ev ρ))) (hx : ev ρ res = spanZ (iterZ (t.map (ev ρ)) (r.map (ev ρ)) J)) : PPk 27 [] ((res :: ((.ofNat N, []) : Ln) :: j :: (t ++ r)).map (ev ρ)) := by
  show ∃ (J : Nat) (t' r' : List Int), ev ρ ((.ofNat N, []) : Ln) = t'.length ∧ ev ρ j = J ∧ J ≤ 100 ∧ (t ++ r).map (ev ρ) = t' ++ r' ∧ okCl t' r' ∧ ev ρ res = spanZ (iterZ t' r' J)
  rw [show ev ρ ((.ofNat N, []) : Ln) = (N : Int) from ev_k ρ N]
  exact ⟨J, t.map (ev ρ), r.map (ev ρ), by rw [List.length_map, ht], hj, hJ, List.map_append .., hc, hx⟩
/-- the class's answer: the greatest less the least -/
noncomputable def hSpanC (P N al bl rl : Nat) : HF := fun pc lv A pr nx tab fs => bif Nat.beq pc P then (match alGet al lv, alGet bl lv, alGet rl lv, pr.findSome? (f25 N) with
  | some (.inl (true, l)), some (.inl (true, g)), some (.inl (false, k)), some (j, t, r, x) => (match x with
    | x0 :: xs => (match maxS tab fs x0 xs, minS tab fs x0 xs with
      | some g', some l' => bif (bif eqL tab fs g g' then (bif eqL tab fs l l' then eqL tab fs j k else false) else false) then some [(A, (27, [], subL g l :: (.ofNat N, []) :: k :: (t ++ r)) :: pr.filter noX, nx, tab, fs)] else none
      | _, _ => none)
    | [] => none)
  | _, _, _, _ => none) else none
theorem hSpanC_ok (P N al bl rl : Nat) : HFOk PPk (hSpanC P N al bl rl) := by
  intro pc lv A pr nx tab fs L ρ clv cσ h hr hp
  unfold hSpanC at h
  cases z : Nat.beq pc P with
  | false => rw [z] at h; cases h
  | true =>
    rw [z, cond_true] at h
    split at h
    · rename_i l g k j t r x h1 h2 h3 h4
      split at h
      · rename_i x0 xs
        split at h
        · rename_i g' l' h5 h6
          cases hb : (bif eqL tab fs g g' then (bif eqL tab fs l l' then eqL tab fs j k else false) else false) with
          | false => rw [hb] at h; cases h
          | true =>
            rw [hb] at h
            cases h
            obtain ⟨b1, hb⟩ := cand hb
            obtain ⟨b2, b3⟩ := cand hb
            obtain ⟨p1, m1, f1⟩ := List.exists_of_findSome?_eq_some h4
            refine ⟨_, List.mem_cons_self, hGood0 (fun ρ' ha => ⟨(hr ρ' ha).1, (hr ρ' ha).2.1, (hr ρ' ha).2.2.2⟩) (fun ρ' ha => List.forall_mem_cons.mpr ⟨?_, fun p hq => hp ρ' ha p (List.mem_filter.mp hq).1⟩)⟩
            obtain ⟨u1, u2, -⟩ := hr ρ' ha
            obtain ⟨g1, g2, g3, J, g4, g5, g6, g7⟩ := f25_ok (hp ρ' ha) m1 f1
            refine near_mk g1 (by rw [← eqL_ok u1 u2 b3]; exact g4) g5 g6 ?_
            rw [← g7, ev_sub, eqL_ok u1 u2 b1, eqL_ok u1 u2 b2, maxS_ok u1 u2 h5, minS_ok u1 u2 h6]
            rfl
        · cases h
      · cases h
    · cases h
/-- the model's double loop begins -/
noncomputable def hOff0 (P N qt : Nat) : HF := fun pc _ A pr nx tab fs => bif Nat.beq pc P then (match elsJ qt pr N 0 with
  | some x => some [(A, (26, [], kL 0 :: kL 0 :: x) :: pr, nx, tab, fs)]
  | none => none) else none
theorem hOff0_ok (P N qt : Nat) : HFOk PPk (hOff0 P N qt) := by
  intro pc lv A pr nx tab fs L ρ clv cσ h hr hp
  unfold hOff0 at h
  cases z : Nat.beq pc P with
  | false => rw [z] at h; cases h
  | true =>
    rw [z, cond_true] at h
    split at h
    · rename_i x h1
      cases h
      refine ⟨_, List.mem_cons_self, hGood0 (fun ρ' ha => ⟨(hr ρ' ha).1, (hr ρ' ha).2.1, (hr ρ' ha).2.2.2⟩) (fun ρ' ha => List.forall_mem_cons.mpr ⟨?_, hp ρ' ha⟩)⟩
      exact (⟨0, ev_k ρ' 0, ev_k ρ' 0⟩ : ∃ K : Nat, ev ρ' (kL 0) = K ∧ ev ρ' (kL 0) = offZ (x.map (ev ρ')) K)
    · cases h
noncomputable def f26 (p : PD) : Option (Nat × Ln × List Ln) := bif Nat.beq p.1 26 then (match p.2.1, p.2.2 with
  | [], k :: o :: x => (match k with
    | (.ofNat K, []) => some (K, o, x)
    | _ => none)
  | _, _ => none) else none
theorem f26_ok {ρ : Nat → Int} {cσ : SH} {pr : List PD} {p : PD} {K : Nat} {o : Ln} {x : List Ln} (hp : prOk PPk ρ cσ pr) (hm : p ∈ pr) (h : f26 p = some (K, o, x)) : ev ρ o = offZ (x.map (ev ρ)) K := by
  obtain ⟨k, ls, ns⟩ := p
  unfold f26 at h
  cases hk : Nat.beq k 26 with
  | false => rw [hk] at h; cases h
  | true =>
    rw [hk, cond_true] at h
    have := Nat.eq_of_beq_eq_true hk
    subst this
    match ls, ns, h with
    | [], (.ofNat c, []) :: o' :: x', h =>
      cases h
      obtain ⟨K', g1, g2⟩ := (hp _ hm : ∃ K' : Nat, ev ρ ((.ofNat K, []) : Ln) = K' ∧ ev ρ o = offZ (x.map (ev ρ)) K')
      rw [show ev ρ ((.ofNat K, []) : Ln) = (K : Int) from ev_k ρ K] at g1
      have : K' = K := by omega
      rw [g2, this]
    | [], (.negSucc c, []) :: o' :: x', h => cases h
    | [], (.ofNat c, _ :: _) :: o' :: x', h => cases h
    | [], (.negSucc c, _ :: _) :: o' :: x', h => cases h
    | [], [], h => cases h
    | [], [_], h => cases h
    | _ :: _, _, h => cases h
/-- one pair more -/
noncomputable def hOffS (P ol : Nat) : HF := fun pc lv A pr nx tab fs => bif Nat.beq pc P then (match alGet ol lv, pr.findSome? f26 with
  | some (.inl (true, o')), some (K, o, x) => (match x[Nat.div K x.length]?, x[Nat.mod K x.length]? with
    | some a, some b => bif (bif le0 tab fs (pluL (subL o (subL a b)) 1) then eqL tab fs o' (subL a b) else bif le0 tab fs (subL (subL a b) o) then eqL tab fs o' o else false) then some [(A, (26, [], (.ofNat (Nat.succ K), []) :: o' :: x) :: pr.filter (fun p => bif Nat.beq p.1 26 then false else true), nx, tab, fs)] else none
    | _, _ => none)
  | _, _ => none) else none
theorem hOffS_ok (P ol : Nat) : HFOk PPk (hOffS P ol) := by
  intro pc lv A pr nx tab fs L ρ clv cσ h hr hp
  unfold hOffS at h
  cases z : Nat.beq pc P with
  | false => rw [z] at h; cases h
  | true =>
    rw [z, cond_true] at h
    split at h
    · rename_i o' K o x h1 h2
      split at h
      · rename_i a b h3 h4
        cases hb : (bif le0 tab fs (pluL (subL o (subL a b)) 1) then eqL tab fs o' (subL a b) else bif le0 tab fs (subL (subL a b) o) then eqL tab fs o' o else false) with
        | false => rw [hb] at h; cases h
        | true =>
          rw [hb] at h
          cases h
          obtain ⟨p1, m1, f1⟩ := List.exists_of_findSome?_eq_some h2
          refine ⟨_, List.mem_cons_self, hGood0 (fun ρ' ha => ⟨(hr ρ' ha).1, (hr ρ' ha).2.1, (hr ρ' ha).2.2.2⟩) (fun ρ' ha => List.forall_mem_cons.mpr ⟨?_, fun p hq => hp ρ' ha p (List.mem_filter.mp hq).1⟩)⟩
          obtain ⟨u1, u2, -⟩ := hr ρ' ha
          have g := f26_ok (hp ρ' ha) m1 f1
          refine (⟨K + 1, ev_k ρ' _, ?_⟩ : ∃ K1 : Nat, ev ρ' ((.ofNat (Nat.succ K), []) : Ln) = K1 ∧ ev ρ' o' = offZ (x.map (ev ρ')) K1)
          show ev ρ' o' = (if offZ (x.map (ev ρ')) K < (x.map (ev ρ')).getD (K / (x.map (ev ρ')).length) 0 - (x.map (ev ρ')).getD (K % (x.map (ev ρ')).length) 0 then (x.map (ev ρ')).getD (K / (x.map (ev ρ')).length) 0 - (x.map (ev ρ')).getD (K % (x.map (ev ρ')).length) 0 else offZ (x.map (ev ρ')) K)
          rw [List.length_map, show (x.map (ev ρ')).getD (K / x.length) 0 = ev ρ' a from getD_map h3, show (x.map (ev ρ')).getD (K % x.length) 0 = ev ρ' b from getD_map h4, ← g]
          cases c1 : le0 tab fs (pluL (subL o (subL a b)) 1) with
          | true =>
            rw [c1, cond_true] at hb
            have d1 := le0_ok u1 u2 c1
            rw [ev_plu, ev_sub, ev_sub] at d1
            rw [if_pos (by omega), eqL_ok u1 u2 hb, ev_sub]
          | false =>
            rw [c1, cond_false] at hb
            obtain ⟨c2, c3⟩ := cand hb
            have d1 := le0_ok u1 u2 c2
            rw [ev_sub, ev_sub] at d1
            rw [if_neg (by omega), eqL_ok u1 u2 c3]
      · cases h
    · cases h
/-- an answer that is told already -/
noncomputable def f27 (tab : Tb) (fs : List Ln) (q : List Ln) (p : PD) : Option Ln := bif Nat.beq p.1 27 then (match p.2.1, p.2.2 with
  | [], v :: l => bif eqLs tab fs l q then some v else none
  | _, _ => none) else none
theorem near_v {ρ : Nat → Int} {l q : List Ln} {v w : Ln} (h1 : PPk 27 [] ((v :: l).map (ev ρ))) (h2 : PPk 27 [] ((w :: q).map (ev ρ))) (he : l.map (ev ρ) = q.map (ev ρ)) : ev ρ v = ev ρ w := by
  match l, q, he, h1, h2 with
  | a :: b :: l, c :: d :: q, he, h1, h2 =>
    obtain ⟨J, t, r, g1, g2, g3, g4, g5, g6⟩ := (h1 : ∃ (J : Nat) (t r : List Int), ev ρ a = t.length ∧ ev ρ b = J ∧ J ≤ 100 ∧ l.map (ev ρ) = t ++ r ∧ okCl t r ∧ ev ρ v = spanZ (iterZ t r J))
    obtain ⟨J', t', r', k1, k2, k3, k4, k5, k6⟩ := (h2 : ∃ (J : Nat) (t r : List Int), ev ρ c = t.length ∧ ev ρ d = J ∧ J ≤ 100 ∧ q.map (ev ρ) = t ++ r ∧ okCl t r ∧ ev ρ w = spanZ (iterZ t r J))
    rw [List.map_cons, List.map_cons, List.map_cons, List.map_cons] at he
    injection he with e1 he
    injection he with e2 e3
    have hJ : J = J' := by omega
    have hl : t.length = t'.length := by omega
    rw [e3, k4] at g4
    obtain ⟨x1, x2⟩ := List.append_inj g4 hl.symm
    rw [g6, k6, hJ, x1, x2]
  | [], _, _, h1, _ => exact (h1 : False).elim
  | [_], _, _, h1, _ => exact (h1 : False).elim
  | _ :: _ :: _, [], _, _, h2 => exact (h2 : False).elim
  | _ :: _ :: _, [_], _, _, h2 => exact (h2 : False).elim
/-- the model's answer; equal to one that is told -/
noncomputable def hSpanM (P N ol rl : Nat) : HF := fun pc lv A pr nx tab fs => bif Nat.beq pc P then (match alGet ol lv, alGet rl lv, pr.findSome? f26, pr.findSome? (f25 N) with
  | some (.inl (true, o')), some (.inl (false, k)), some (K, o, x), some (j, t, r, x') => bif (bif Nat.ble 1 N then (bif Nat.beq K (Nat.mul N N) then (bif eqLs tab fs x x' then (bif eqL tab fs o' o then eqL tab fs j k else false) else false) else false) else false) then (match pr.findSome? (f27 tab fs ((.ofNat N, []) :: k :: (t ++ r))) with
    | some v => some [(A, (27, [], o' :: (.ofNat N, []) :: k :: (t ++ r)) :: pr.filter noX, nx, tab, subL o' v :: subL v o' :: fs)]
    | none => some [(A, (27, [], o' :: (.ofNat N, []) :: k :: (t ++ r)) :: pr.filter noX, nx, tab, fs)]) else none
  | _, _, _, _ => none) else none
theorem hSpanM_ok (P N ol rl : Nat) : HFOk PPk (hSpanM P N ol rl) := by
  intro pc lv A pr nx tab fs L ρ clv cσ h hr hp
  unfold hSpanM at h
  cases z : Nat.beq pc P with
  | false => rw [z] at h; cases h
  | true =>
    rw [z, cond_true] at h
    split at h
    · rename_i o' k K o x j t r x' h1 h2 h3 h4
      cases hb : (bif Nat.ble 1 N then (bif Nat.beq K (Nat.mul N N) then (bif eqLs tab fs x x' then (bif eqL tab fs o' o then eqL tab fs j k else false) else false) else false) else false) with
      | false => rw [hb] at h; cases h
      | true =>
        rw [hb, cond_true] at h
        obtain ⟨b0, hb⟩ := cand hb
        obtain ⟨b1, hb⟩ := cand hb
        obtain ⟨b2, hb⟩ := cand hb
        obtain ⟨b3, b4⟩ := cand hb
        obtain ⟨p1, m1, f1⟩ := List.exists_of_findSome?_eq_some h3
        obtain ⟨p2, m2, f2⟩ := List.exists_of_findSome?_eq_some h4
        have key : ∀ ρ', agr2 nx ρ ρ' → PPk 27 [] ((o' :: ((.ofNat N, []) : Ln) :: k :: (t ++ r)).map (ev ρ')) := fun ρ' ha => by
          obtain ⟨u1, u2, -⟩ := hr ρ' ha
          obtain ⟨g1, g2, g3, J, g4, g5, g6, g7⟩ := f25_ok (hp ρ' ha) m2 f2
          have g8 := f26_ok (hp ρ' ha) m1 f1
          refine near_mk g1 (by rw [← eqL_ok u1 u2 b4]; exact g4) g5 g6 ?_
          have e1 := eqLs_ok u1 u2 b2
          have hN := Nat.le_of_ble_eq_true b0
          have hne : x.map (ev ρ') ≠ [] := by
            rw [e1]
            intro e
            have := congrArg List.length e
            rw [List.length_map, g3] at this
            have h0 : N = 0 := this
            omega
          have hlen : (x.map (ev ρ')).length = N := by rw [e1, List.length_map, g3]
          have hK : K = (x.map (ev ρ')).length * (x.map (ev ρ')).length := by
            rw [hlen]
            exact Nat.eq_of_beq_eq_true b1
          rw [eqL_ok u1 u2 b3, g8, hK, span_off hne, e1, g7]
        split at h
        · rename_i v h5
          cases h
          obtain ⟨p3, m3, f3⟩ := List.exists_of_findSome?_eq_some h5
          have hv : ∀ ρ', agr2 nx ρ ρ' → ev ρ' v = ev ρ' o' := fun ρ' ha => by
            obtain ⟨u1, u2, -⟩ := hr ρ' ha
            obtain ⟨kk, ls, ns⟩ := p3
            unfold f27 at f3
            cases hk : Nat.beq kk 27 with
            | false => rw [hk] at f3; cases f3
            | true =>
              rw [hk, cond_true] at f3
              have := Nat.eq_of_beq_eq_true hk
              subst this
              match ls, ns, f3, m3 with
              | [], v' :: l, f3, m3 =>
                cases h6 : eqLs tab fs l ((.ofNat N, []) :: k :: (t ++ r)) with
                | false => simp only [h6, cond_false] at f3; cases f3
                | true =>
                  simp only [h6, cond_true] at f3
                  cases f3
                  exact near_v (hp ρ' ha _ m3) (key ρ' ha) (eqLs_ok u1 u2 h6)
              | [], [], f3, _ => cases f3
              | _ :: _, _, f3, _ => cases f3
          refine ⟨_, List.mem_cons_self, hGood0 (fun ρ' ha => ⟨(hr ρ' ha).1, fun f hf => ?_, (hr ρ' ha).2.2.2⟩) (fun ρ' ha => List.forall_mem_cons.mpr ⟨key ρ' ha, fun p hq => hp ρ' ha p (List.mem_filter.mp hq).1⟩)⟩
          have e := hv ρ' ha
          rcases List.mem_cons.mp hf with hf | hf
          · rw [hf, ev_sub]
            omega
          · rcases List.mem_cons.mp hf with hf | hf
            · rw [hf, ev_sub]
              omega
            · exact (hr ρ' ha).2.1 f hf
        · cases h
          exact ⟨_, List.mem_cons_self, hGood0 (fun ρ' ha => ⟨(hr ρ' ha).1, (hr ρ' ha).2.1, (hr ρ' ha).2.2.2⟩) (fun ρ' ha => List.forall_mem_cons.mpr ⟨key ρ' ha, fun p hq => hp ρ' ha p (List.mem_filter.mp hq).1⟩)⟩
    · cases h
