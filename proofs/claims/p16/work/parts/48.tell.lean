/-! ===== a text that is read: hints, macros (the second half) ===== -/
noncomputable def spTab : List (Int × Int × Nat) := [(0, 127, 1), (32, 32, 0), (33, 33, 6), (38, 38, 9), (40, 40, 4), (41, 41, 5), (42, 42, 13), (43, 43, 12), (45, 45, 11), (47, 47, 13), (48, 57, 2), (60, 62, 10), (100, 100, 3), (102, 102, 3), (104, 104, 3), (109, 110, 3), (118, 118, 3), (124, 124, 8)]
theorem spTab_cov : (List.range 128).all (fun n => spTab.any (fun e => decide (e.1 ≤ (n : Int)) && decide ((n : Int) ≤ e.2.1) && Nat.beq e.2.2 (rdC (n : Int)))) = true := by decide +kernel
theorem spTab_ok {v : Int} (h0 : 0 ≤ v) (h1 : v ≤ 127) : ∃ e ∈ spTab, e.1 ≤ v ∧ v ≤ e.2.1 ∧ e.2.2 = rdC v := by
  obtain ⟨n, rfl⟩ : ∃ n : Nat, v = n := ⟨v.toNat, by omega⟩
  obtain ⟨e, he, h3⟩ := List.any_eq_true.mp (List.all_eq_true.mp spTab_cov n (List.mem_range.mpr (by omega)))
  simp only [Bool.and_eq_true, decide_eq_true_eq] at h3
  exact ⟨e, he, h3.1.1, h3.1.2, Nat.eq_of_beq_eq_true h3.2⟩
/-- what the character at a place is, as a number -/
noncomputable def fKs (tab : Tb) (fs : List Ln) (n t i : Ln) (p : PD) : Option Ln := bif Nat.beq p.1 29 then (match p.2.1, p.2.2 with
  | [], [n', t', i', k] => bif (bif eqL tab fs n n' then (bif eqL tab fs t t' then eqL tab fs i i' else false) else false) then some k else none
  | _, _ => none) else none
theorem fKs_ok {ρ : Nat → Int} {cσ : SH} {pr : List PD} {tab : Tb} {fs : List Ln} {p : PD} {n t i k : Ln} (ht : tOk ρ tab) (hf : fOk ρ fs) (hp : prOk PPk ρ cσ pr) (hm : p ∈ pr) (h : fKs tab fs n t i p = some k) : wCl (ev ρ n) (ev ρ t) (ev ρ i) (ev ρ k) := by
  obtain ⟨q, ls, ns⟩ := p
  unfold fKs at h
  cases hk : Nat.beq q 29 with
  | false => rw [hk] at h; cases h
  | true =>
    rw [hk, cond_true] at h
    have := Nat.eq_of_beq_eq_true hk
    subst this
    split at h
    · rename_i n' t' i' k' e1 e2
      try dsimp only at e1 e2
      subst e1; subst e2
      cases hb : (bif eqL tab fs n n' then (bif eqL tab fs t t' then eqL tab fs i i' else false) else false) with
      | false => rw [hb] at h; cases h
      | true =>
        rw [hb] at h
        cases h
        obtain ⟨b1, hb⟩ := cand hb
        obtain ⟨b2, b3⟩ := cand hb
        have h3 : wCl (ev ρ n') (ev ρ t') (ev ρ i') (ev ρ k) := hp _ hm
        rw [eqL_ok ht hf b1, eqL_ok ht hf b2, eqL_ok ht hf b3]
        exact h3
    · cases h
/-- a class that a number rules out -/
noncomputable def spOut (tab : Tb) (fs : List Ln) (k : Nat) (kl : Option Ln) : Bool := match kl with
  | none => false
  | some l => bif le0 tab fs (subL (pluL l 1) (kL (.ofNat k))) then true else le0 tab fs (subL (kL (.ofNat (Nat.succ k))) l)
noncomputable def spFs (k : Nat) (kl : Option Ln) (fs : List Ln) : List Ln := match kl with
  | none => fs
  | some l => subL (kL (.ofNat k)) l :: subL l (kL (.ofNat k)) :: fs
theorem spOut_ok {ρ : Nat → Int} {tab : Tb} {fs : List Ln} (ht : tOk ρ tab) (hf : fOk ρ fs) {k : Nat} {l : Ln} (h : ev ρ l = k) : spOut tab fs k (some l) = false := by
  cases z : spOut tab fs k (some l) with
  | false => rfl
  | true =>
    exfalso
    unfold spOut at z
    try dsimp only at z
    cases y : le0 tab fs (subL (pluL l 1) (kL (.ofNat k))) with
    | true =>
      have e := le0_ok ht hf y
      rw [ev_sub, ev_plu, ev_ki] at e
      omega
    | false =>
      rw [y, cond_false] at z
      have e := le0_ok ht hf z
      rw [ev_sub, ev_ki] at e
      have : ((Nat.succ k : Nat) : Int) = k + 1 := rfl
      omega
theorem spFs_ok {ρ : Nat → Int} {fs : List Ln} (hf : fOk ρ fs) {k : Nat} {l : Ln} (h : ev ρ l = k) : fOk ρ (spFs k (some l) fs) := by
  refine fOk_cons (fOk_cons hf ?_) ?_
  · rw [ev_sub, ev_ki, h]; omega
  · rw [ev_sub, ev_ki, h]; omega
/-- the character at hand: each class it may be of -/
noncomputable def hSpl (P : Nat) : HF := fun pc _ A pr nx tab fs => bif Nat.beq pc P then (match pr.findSome? f28 with
  | some (n, t, i, _, _, _, _) => (match pr.findSome? (fCh tab fs n t (addL i (dgK tab fs pr n t i))) with
    | some (.ofNat 0, [(s, .ofNat 1)]) => bif Nat.blt s nx then (match pr.findSome? (fKlas tab fs n t (addL i (dgK tab fs pr n t i))) with
      | some kc => some (spTab.filterMap (fun e => bif Nat.beq e.2.2 kc then some (A, pr, nx, tbIns s e.1 e.2.1 tab, fs) else none))
      | none => some (spTab.filterMap (fun e => bif spOut tab fs e.2.2 (pr.findSome? (fKs tab fs n t (addL i (dgK tab fs pr n t i)))) then none else some (A, (29, [], [n, t, addL i (dgK tab fs pr n t i), (.ofNat e.2.2, [])]) :: pr, nx, tbIns s e.1 e.2.1 tab, spFs e.2.2 (pr.findSome? (fKs tab fs n t (addL i (dgK tab fs pr n t i)))) fs)))) else none
    | _ => none)
  | none => none) else none
theorem hSpl_ok (P : Nat) : HFOk PPk (hSpl P) := by
  intro pc lv A pr nx tab fs L ρ clv cσ h hr hp
  unfold hSpl at h
  cases z : Nat.beq pc P with
  | false => rw [z] at h; cases h
  | true =>
    rw [z, cond_true] at h
    split at h
    · rename_i n t i w d b c h1
      split at h
      · rename_i s h2
        obtain ⟨p2, m2, f2⟩ := List.exists_of_findSome?_eq_some h2
        cases hs : Nat.blt s nx with
        | false => rw [hs] at h; cases h
        | true =>
          rw [hs, cond_true] at h
          have hsn := blt_iff.mp hs
          obtain ⟨u1, u2, -⟩ := hr ρ agr2.rf
          have es : ∀ ρ', ev ρ' ((.ofNat 0, [(s, .ofNat 1)]) : Ln) = ρ' s := fun ρ' => ev_s ρ' s
          have wc : ∀ ρ', agr2 nx ρ ρ' → wCh (ev ρ' n) (ev ρ' t) (ev ρ' (addL i (dgK tab fs pr n t i))) (ρ' s) := fun ρ' ha => by
            obtain ⟨v1, v2, -⟩ := hr ρ' ha
            have := fCh_ok v1 v2 (hp ρ' ha) m2 f2
            rw [es] at this
            exact this
          have bd := wCh_bd (wc ρ agr2.rf)
          obtain ⟨e, he, e1, e2, e3⟩ := spTab_ok bd.1 bd.2
          have hsame : ∀ ρ', agr2 nx ρ ρ' → ρ' s = ρ s := fun ρ' ha => ha s hsn
          split at h
          · rename_i kc h3
            obtain ⟨p3, m3, f3⟩ := List.exists_of_findSome?_eq_some h3
            cases h
            have q := wCl_inj (wCl_ch (wc ρ agr2.rf)) (fKlas_ok u1 u2 (hp ρ agr2.rf) m3 f3)
            have ek : e.2.2 = kc := by omega
            refine ⟨(A, pr, nx, tbIns s e.1 e.2.1 tab, fs), List.mem_filterMap.mpr ⟨e, he, ?_⟩, ρ, Nat.le_refl _, agr2.rf, fun ρ' ha => ?_, fun ρ' ha => hp ρ' ha⟩
            · rw [ek, Nat.beq_refl]; rfl
            · obtain ⟨v1, v2, -, v4⟩ := hr ρ' ha
              exact ⟨tOk_cons v1 (by rw [hsame ρ' ha]; exact e1) (by rw [hsame ρ' ha]; exact e2), v2, v4⟩
          · cases h
            have cl : ∀ ρ', agr2 nx ρ ρ' → wCl (ev ρ' n) (ev ρ' t) (ev ρ' (addL i (dgK tab fs pr n t i))) e.2.2 := fun ρ' ha => by
              have := wCl_ch (wc ρ' ha)
              rw [hsame ρ' ha, ← e3] at this
              exact this
            cases h4 : pr.findSome? (fKs tab fs n t (addL i (dgK tab fs pr n t i))) with
            | none =>
              refine ⟨(A, (29, [], [n, t, addL i (dgK tab fs pr n t i), (.ofNat e.2.2, [])]) :: pr, nx, tbIns s e.1 e.2.1 tab, fs), List.mem_filterMap.mpr ⟨e, he, rfl⟩, ρ, Nat.le_refl _, agr2.rf, fun ρ' ha => ?_, fun ρ' ha => List.forall_mem_cons.mpr ⟨?_, hp ρ' ha⟩⟩
              · obtain ⟨v1, v2, -, v4⟩ := hr ρ' ha
                exact ⟨tOk_cons v1 (by rw [hsame ρ' ha]; exact e1) (by rw [hsame ρ' ha]; exact e2), v2, v4⟩
              · show wCl (ev ρ' n) (ev ρ' t) (ev ρ' (addL i (dgK tab fs pr n t i))) (ev ρ' ((.ofNat e.2.2, []) : Ln))
                rw [show ev ρ' ((.ofNat e.2.2, []) : Ln) = (e.2.2 : Int) from ev_k ρ' e.2.2]
                exact cl ρ' ha
            | some l =>
              obtain ⟨p4, m4, f4⟩ := List.exists_of_findSome?_eq_some h4
              have el : ∀ ρ', agr2 nx ρ ρ' → ev ρ' l = e.2.2 := fun ρ' ha => by
                obtain ⟨v1, v2, -⟩ := hr ρ' ha
                exact wCl_inj (fKs_ok v1 v2 (hp ρ' ha) m4 f4) (cl ρ' ha)
              refine ⟨(A, (29, [], [n, t, addL i (dgK tab fs pr n t i), (.ofNat e.2.2, [])]) :: pr, nx, tbIns s e.1 e.2.1 tab, spFs e.2.2 (some l) fs), List.mem_filterMap.mpr ⟨e, he, ?_⟩, ρ, Nat.le_refl _, agr2.rf, fun ρ' ha => ?_, fun ρ' ha => List.forall_mem_cons.mpr ⟨?_, hp ρ' ha⟩⟩
              · rw [spOut_ok u1 u2 (el ρ agr2.rf)]; rfl
              · obtain ⟨v1, v2, -, v4⟩ := hr ρ' ha
                exact ⟨tOk_cons v1 (by rw [hsame ρ' ha]; exact e1) (by rw [hsame ρ' ha]; exact e2), spFs_ok v2 (el ρ' ha), v4⟩
              · show wCl (ev ρ' n) (ev ρ' t) (ev ρ' (addL i (dgK tab fs pr n t i))) (ev ρ' ((.ofNat e.2.2, []) : Ln))
                rw [show ev ρ' ((.ofNat e.2.2, []) : Ln) = (e.2.2 : Int) from ev_k ρ' e.2.2]
                exact cl ρ' ha
      · cases h
    · cases h
/-- the end of the text is at hand -/
noncomputable def hEnd7 (P : Nat) : HF := fun pc _ A pr nx tab fs => bif Nat.beq pc P then (match pr.findSome? f28 with
  | some (n, t, i, _, _, _, _) => bif eqL tab fs i n then (match pr.findSome? (fKs tab fs n t i) with
    | some l => bif (bif le0 tab fs (pluL l (.negSucc 5)) then true else le0 tab fs (subL (kL (.ofNat 8)) l)) then some [] else (match l.2 with
      | [] => none
      | _ => some [(A, (29, [], [n, t, i, (.ofNat 7, [])]) :: pr, nx, tab, subL (kL (.ofNat 7)) l :: subL l (kL (.ofNat 7)) :: fs)])
    | none => some [(A, (29, [], [n, t, i, (.ofNat 7, [])]) :: pr, nx, tab, fs)]) else none
  | none => none) else none
theorem hEnd7_ok (P : Nat) : HFOk PPk (hEnd7 P) := by
  intro pc lv A pr nx tab fs L ρ clv cσ h hr hp
  unfold hEnd7 at h
  cases z : Nat.beq pc P with
  | false => rw [z] at h; cases h
  | true =>
    rw [z, cond_true] at h
    split at h
    · rename_i n t i w d b c h1
      obtain ⟨p1, m1, f1⟩ := List.exists_of_findSome?_eq_some h1
      cases he : eqL tab fs i n with
      | false => rw [he] at h; cases h
      | true =>
        rw [he, cond_true] at h
        have cl : ∀ ρ', agr2 nx ρ ρ' → wCl (ev ρ' n) (ev ρ' t) (ev ρ' i) 7 := fun ρ' ha => by
          obtain ⟨v1, v2, -⟩ := hr ρ' ha
          have h3 := f28_ok (hp ρ' ha) m1 f1
          rw [eqL_ok v1 v2 he] at h3 ⊢
          exact wCl_end h3
        have wd : ∀ ρ', agr2 nx ρ ρ' → PPk 29 [] (([n, t, i, (.ofNat 7, [])] : List Ln).map (ev ρ')) := fun ρ' ha => by
          show wCl (ev ρ' n) (ev ρ' t) (ev ρ' i) (ev ρ' ((.ofNat 7, []) : Ln))
          rw [show ev ρ' ((.ofNat 7, []) : Ln) = 7 from ev_k ρ' 7]
          exact cl ρ' ha
        split at h
        · rename_i l h2
          obtain ⟨p2, m2, f2⟩ := List.exists_of_findSome?_eq_some h2
          have el : ∀ ρ', agr2 nx ρ ρ' → ev ρ' l = 7 := fun ρ' ha => by
            obtain ⟨v1, v2, -⟩ := hr ρ' ha
            exact wCl_inj (fKs_ok v1 v2 (hp ρ' ha) m2 f2) (cl ρ' ha)
          obtain ⟨u1, u2, -⟩ := hr ρ agr2.rf
          have e7 := el ρ agr2.rf
          cases y : (bif le0 tab fs (pluL l (.negSucc 5)) then true else le0 tab fs (subL (kL (.ofNat 8)) l)) with
          | true =>
            exfalso
            cases y1 : le0 tab fs (pluL l (.negSucc 5)) with
            | true =>
              have e := le0_ok u1 u2 y1
              rw [ev_plu, e7] at e
              exact absurd e (by decide)
            | false =>
              rw [y1, cond_false] at y
              have e := le0_ok u1 u2 y
              rw [ev_sub, ev_ki, e7] at e
              exact absurd e (by decide)
          | false =>
            rw [y, cond_false] at h
            split at h
            · cases h
            · cases h
              refine ⟨_, List.mem_cons_self, hGood0 (fun ρ' ha => ⟨(hr ρ' ha).1, fOk_cons (fOk_cons (hr ρ' ha).2.1 ?_) ?_, (hr ρ' ha).2.2.2⟩) (fun ρ' ha => List.forall_mem_cons.mpr ⟨wd ρ' ha, hp ρ' ha⟩)⟩
              · rw [ev_sub, ev_ki, el ρ' ha]; decide
              · rw [ev_sub, ev_ki, el ρ' ha]; decide
        · cases h
          exact ⟨_, List.mem_cons_self, hGood0 (fun ρ' ha => ⟨(hr ρ' ha).1, (hr ρ' ha).2.1, (hr ρ' ha).2.2.2⟩) (fun ρ' ha => List.forall_mem_cons.mpr ⟨wd ρ' ha, hp ρ' ha⟩)⟩
    · cases h
theorem rdC_le (v : Int) : rdC v ≤ 13 ∧ rdC v ≠ 7 := by
  unfold rdC
  (repeat' split) <;> decide
theorem wCl_sp {n t i k : Int} (h : wCl n t i k) : ∃ K : Nat, k = K ∧ K < 14 ∧ (K = 7 → i = n) ∧ (K ≠ 7 → i + 1 ≤ n) := by
  obtain ⟨cs, j, hx, rfl, hk⟩ := h
  have hn := hx.1
  rcases hk with ⟨e1, e2⟩ | ⟨v, e1, e2⟩
  · exact ⟨7, e2, by decide, fun _ => by omega, fun h => absurd rfl h⟩
  · have := rdC_le v
    obtain ⟨hj, -⟩ := List.getElem?_eq_some_iff.mp e1
    exact ⟨rdC v, e2, by omega, fun h => absurd h this.2, fun _ => by omega⟩
/-- the class at hand, one after the other -/
noncomputable def klF (k : Nat) (i n l : Ln) (fs : List Ln) : List Ln := subL (kL (.ofNat k)) l :: subL l (kL (.ofNat k)) :: (bif Nat.beq k 7 then subL i n :: subL n i :: fs else pluL (subL i n) 1 :: fs)
noncomputable def klO (tab : Tb) (fs : List Ln) (k : Nat) (i n l : Ln) : Bool := bif spOut tab fs k (some l) then true else bif Nat.beq k 7 then le0 tab fs (pluL (subL i n) 1) else le0 tab fs (subL n i)
noncomputable def hKls (P : Nat) : HF := fun pc _ A pr nx tab fs => bif Nat.beq pc P then (match pr.findSome? f28 with
  | some (n, t, i, _, _, _, _) => (match pr.findSome? (fKs tab fs n t i) with
    | some l => (match l.2 with
      | [] => none
      | _ => bif scL nx l then some ((List.range 14).filterMap (fun k => bif klO tab fs k i n l then none else some (A, (29, [], [n, t, i, (.ofNat k, [])]) :: pr, nx, tab, klF k i n l fs))) else none)
    | none => none)
  | none => none) else none
theorem hKls_ok (P : Nat) : HFOk PPk (hKls P) := by
  intro pc lv A pr nx tab fs L ρ clv cσ h hr hp
  unfold hKls at h
  cases z : Nat.beq pc P with
  | false => rw [z] at h; cases h
  | true =>
    rw [z, cond_true] at h
    split at h
    · rename_i n t i w d b c h1
      split at h
      · rename_i l h2
        obtain ⟨p2, m2, f2⟩ := List.exists_of_findSome?_eq_some h2
        split at h
        · cases h
        · cases hs : scL nx l with
          | false => rw [hs] at h; cases h
          | true =>
            rw [hs] at h
            cases h
            obtain ⟨u1, u2, -⟩ := hr ρ agr2.rf
            have cl : ∀ ρ', agr2 nx ρ ρ' → wCl (ev ρ' n) (ev ρ' t) (ev ρ' i) (ev ρ' l) := fun ρ' ha => by
              obtain ⟨v1, v2, -⟩ := hr ρ' ha
              exact fKs_ok v1 v2 (hp ρ' ha) m2 f2
            obtain ⟨K, k1, k2, k3, k4⟩ := wCl_sp (cl ρ agr2.rf)
            have all : ∀ ρ', agr2 nx ρ ρ' → ev ρ' l = K ∧ (K = 7 → ev ρ' i = ev ρ' n) ∧ (K ≠ 7 → ev ρ' i + 1 ≤ ev ρ' n) := fun ρ' ha => by
              obtain ⟨K', a1, a2, a3, a4⟩ := wCl_sp (cl ρ' ha)
              have e : ev ρ' l = ev ρ l := scL_ev ha hs
              have : K' = K := by omega
              subst this
              exact ⟨a1, a3, a4⟩
            refine ⟨(A, (29, [], [n, t, i, (.ofNat K, [])]) :: pr, nx, tab, klF K i n l fs), List.mem_filterMap.mpr ⟨K, List.mem_range.mpr k2, ?_⟩, ρ, Nat.le_refl _, agr2.rf, fun ρ' ha => ?_, fun ρ' ha => List.forall_mem_cons.mpr ⟨?_, hp ρ' ha⟩⟩
            · have : klO tab fs K i n l = false := by
                unfold klO
                rw [spOut_ok u1 u2 k1, cond_false]
                cases y : Nat.beq K 7 with
                | true =>
                  rw [cond_true]
                  have e := k3 (Nat.eq_of_beq_eq_true y)
                  cases y2 : le0 tab fs (pluL (subL i n) 1) with
                  | false => rfl
                  | true => have := le0_ok u1 u2 y2; rw [ev_plu, ev_sub] at this; omega
                | false =>
                  rw [cond_false]
                  have e := k4 (fun q => by rw [q] at y; cases y)
                  cases y2 : le0 tab fs (subL n i) with
                  | false => rfl
                  | true => have := le0_ok u1 u2 y2; rw [ev_sub] at this; omega
              rw [this]; rfl
            · obtain ⟨v1, v2, -, v4⟩ := hr ρ' ha
              obtain ⟨a1, a3, a4⟩ := all ρ' ha
              refine ⟨v1, ?_, v4⟩
              unfold klF
              refine fOk_cons (fOk_cons ?_ ?_) ?_
              · cases y : Nat.beq K 7 with
                | true =>
                  have e := a3 (Nat.eq_of_beq_eq_true y)
                  exact fOk_cons (fOk_cons v2 (by rw [ev_sub]; omega)) (by rw [ev_sub]; omega)
                | false =>
                  have e := a4 (fun q => by rw [q] at y; cases y)
                  exact fOk_cons v2 (by rw [ev_plu, ev_sub]; omega)
              · rw [ev_sub, ev_ki, a1]; omega
              · rw [ev_sub, ev_ki, a1]; omega
            · show wCl (ev ρ' n) (ev ρ' t) (ev ρ' i) (ev ρ' ((.ofNat K, []) : Ln))
              rw [show ev ρ' ((.ofNat K, []) : Ln) = (K : Int) from ev_k ρ' K, ← (all ρ' ha).1]
              exact cl ρ' ha
      · cases h
    · cases h
/-- a class, and bounds, that don't go together -/
noncomputable def hCp (P : Nat) : HF := fun pc _ _ pr _ tab fs => bif Nat.beq pc P then (match pr.findSome? f28 with
  | some (n, t, i, _, _, _, _) => (match pr.findSome? (fKlas tab fs n t (addL i (dgK tab fs pr n t i))), pr.findSome? (fCh tab fs n t (addL i (dgK tab fs pr n t i))) with
    | some k, some v => bif exF tab fs v k then some [] else none
    | _, _ => none)
  | none => none) else none
theorem hCp_ok (P : Nat) : HFOk PPk (hCp P) := by
  intro pc lv A pr nx tab fs L ρ clv cσ h hr hp
  unfold hCp at h
  cases z : Nat.beq pc P with
  | false => rw [z] at h; cases h
  | true =>
    rw [z, cond_true] at h
    split at h
    · split at h
      · rename_i k v h2 h3
        obtain ⟨p2, m2, f2⟩ := List.exists_of_findSome?_eq_some h2
        obtain ⟨p3, m3, f3⟩ := List.exists_of_findSome?_eq_some h3
        obtain ⟨u1, u2, -⟩ := hr ρ agr2.rf
        cases hb : exF tab fs v k with
        | false => rw [hb] at h; cases h
        | true =>
          have w1 := fKlas_ok u1 u2 (hp ρ agr2.rf) m2 f2
          have w2 := fCh_ok u1 u2 (hp ρ agr2.rf) m3 f3
          have b := wCh_bd w2
          have := wCl_inj w1 (wCl_ch w2)
          exact absurd (by omega) (exF_ok u1 u2 hb b.1 b.2)
      · cases h
    · cases h
/-- no digit yet -/
noncomputable def hDg0 (P : Nat) : HF := fun pc _ A pr nx tab fs => bif Nat.beq pc P then (match pr.findSome? f28 with
  | some (n, t, f, _, _, _, _) => (match pr.findSome? (fDg tab fs n t f) with
    | some _ => none
    | none => bif le0 tab fs (subL f n) then some [(A, (29, [], [n, t, f, kL 0, kL 0]) :: pr, nx, tab, fs)] else none)
  | none => none) else none
theorem hDg0_ok (P : Nat) : HFOk PPk (hDg0 P) := by
  intro pc lv A pr nx tab fs L ρ clv cσ h hr hp
  unfold hDg0 at h
  cases z : Nat.beq pc P with
  | false => rw [z] at h; cases h
  | true =>
    rw [z, cond_true] at h
    split at h
    · rename_i n t f w d b c h1
      obtain ⟨p1, m1, f1⟩ := List.exists_of_findSome?_eq_some h1
      split at h
      · cases h
      · cases hb : le0 tab fs (subL f n) with
        | false => rw [hb] at h; cases h
        | true =>
          rw [hb] at h
          cases h
          refine ⟨_, List.mem_cons_self, hGood0 (fun ρ' ha => ⟨(hr ρ' ha).1, (hr ρ' ha).2.1, (hr ρ' ha).2.2.2⟩) (fun ρ' ha => List.forall_mem_cons.mpr ⟨?_, hp ρ' ha⟩)⟩
          obtain ⟨u1, u2, -⟩ := hr ρ' ha
          have e := le0_ok u1 u2 hb
          rw [ev_sub] at e
          show wDg (ev ρ' n) (ev ρ' t) (ev ρ' f) (ev ρ' (kL 0))
          rw [show ev ρ' (kL 0) = 0 from ev_k ρ' 0]
          exact wDg_0 (f28_ok (hp ρ' ha) m1 f1) (by omega)
    · cases h
/-- an empty text -/
noncomputable def hZ10 (P q o : Nat) : HF := fun pc _ A pr nx tab fs => bif Nat.beq pc P then (bif (bif Nat.beq o 0 then true else match A[q]? with
  | some (.inr (k, .inl s)) => bif Nat.blt k 100 then Nat.ble o (sgLen s) else false
  | _ => false) then some [(A, (10, [q], [kL (.ofNat o), kL 0, kL 0, kL 0, kL 0]) :: pr, nx, tab, fs)] else none) else none
theorem hZ10_ok (P q o : Nat) : HFOk PPk (hZ10 P q o) := by
  intro pc lv A pr nx tab fs L ρ clv cσ h hr hp
  unfold hZ10 at h
  cases z : Nat.beq pc P with
  | false => rw [z] at h; cases h
  | true =>
    rw [z, cond_true] at h
    cases hb : (bif Nat.beq o 0 then true else match A[q]? with
      | some (.inr (k, .inl s)) => bif Nat.blt k 100 then Nat.ble o (sgLen s) else false
      | _ => false) with
    | false => rw [hb] at h; cases h
    | true =>
      rw [hb] at h
      cases h
      have hl : o ≤ (arrI (cσ.getD q (.inl (0, [])))).length := by
        cases y : Nat.beq o 0 with
        | true => rw [Nat.eq_of_beq_eq_true y]; exact Nat.zero_le _
        | false =>
          rw [y, cond_false] at hb
          split at hb
          · rename_i k s hA
            obtain ⟨g1, g2⟩ := cand hb
            obtain ⟨-, -, -, v4⟩ := hr ρ agr2.rf
            obtain ⟨cc, hc1, hc2⟩ := rel2_get v4 hA
            obtain ⟨l, e5, h5⟩ := crI_inv (blt_iff.mp g1) hc2
            subst e5
            have e6 : arrI (cσ.getD q (.inl (0, []))) = l := by
              rw [List.getD_eq_getElem?_getD, hc1]
              rfl
            rw [e6, srel_len h5]
            exact Nat.le_of_ble_eq_true g2
          · cases hb
      refine ⟨_, List.mem_cons_self, hGood0 (fun ρ' ha => ⟨(hr ρ' ha).1, (hr ρ' ha).2.1, (hr ρ' ha).2.2.2⟩) (fun ρ' ha => List.forall_mem_cons.mpr ⟨?_, hp ρ' ha⟩)⟩
      show 10 = 10 ∧ okTr (arrI (cσ.getD q (.inl (0, [])))) (ev ρ' (kL (.ofNat o))) (ev ρ' (kL 0)) (ev ρ' (kL 0))
      rw [ev_ki, show ev ρ' (kL 0) = 0 from ev_k ρ' 0]
      refine ⟨rfl, o, 0, rfl, rfl, Nat.zero_le _, hl, ?_⟩
      rw [List.take_zero]
      exact okTx_nil
-- the model's waiting signs
noncomputable def waitO (lv : AL) (A : AH) : Option Ln := match alGet 0 lv with
  | some (.inr (.inl (some o))) => (match (A[o]? : Option AC) with
    | some (.inl (_, us)) => (match (us[6]? : Option AV) with
      | some (.inl (false, m)) => some m
      | _ => none)
    | _ => none)
  | _ => none
/-- what the word says of so many that wait -/
noncomputable def tlW9 (tab : Tb) (fs : List Ln) (q : Nat) (m : Ln) (p : PD) : Option (Ln × Ln × Ln × Ln × Ln) := bif Nat.beq p.1 29 then (match p.2.1, p.2.2 with
  | [q'], [m', d, b, c, t] => bif (bif Nat.beq q q' then eqL tab fs m' m else false) then some (m', d, b, c, t) else none
  | _, _ => none) else none
theorem tlW9_ok {ρ : Nat → Int} {cσ : SH} {pr : List PD} {tab : Tb} {fs : List Ln} {p : PD} {q : Nat} {m0 m d b c t : Ln} (hp : prOk PPk ρ cσ pr) (hm : p ∈ pr) (h : tlW9 tab fs q m0 p = some (m, d, b, c, t)) : okWt (arrI (cσ.getD q (.inl (0, [])))) (ev ρ m) (ev ρ d) (ev ρ b) (ev ρ c) (ev ρ t) := by
  obtain ⟨k, ls, ns⟩ := p
  unfold tlW9 at h
  cases hk : Nat.beq k 29 with
  | false => rw [hk] at h; cases h
  | true =>
    rw [hk, cond_true] at h
    have := Nat.eq_of_beq_eq_true hk
    subst this
    split at h
    · rename_i q' m' d' b' c' t' e1 e2
      try dsimp only at e1 e2
      subst e1; subst e2
      cases hb : (bif Nat.beq q q' then eqL tab fs m' m0 else false) with
      | false => rw [hb] at h; cases h
      | true =>
        rw [hb] at h
        cases h
        obtain ⟨g1, -⟩ := cand hb
        rw [Nat.eq_of_beq_eq_true g1]
        have h3 : okWt (arrI (cσ.getD q' (.inl (0, [])))) (ev ρ m) (ev ρ d) (ev ρ b) (ev ρ c) (ev ρ t) := hp _ hm
        exact h3
    · cases h
theorem tlW9_eq {tab : Tb} {fs : List Ln} {p : PD} {q : Nat} {m0 m d b c t : Ln} (h : tlW9 tab fs q m0 p = some (m, d, b, c, t)) : p = (29, [q], [m, d, b, c, t]) ∧ eqL tab fs m m0 = true := by
  obtain ⟨k, ls, ns⟩ := p
  unfold tlW9 at h
  cases hk : Nat.beq k 29 with
  | false => rw [hk] at h; cases h
  | true =>
    rw [hk, cond_true] at h
    have := Nat.eq_of_beq_eq_true hk
    subst this
    split at h
    · rename_i q' m' d' b' c' t' e1 e2
      try dsimp only at e1 e2
      subst e1; subst e2
      cases hb : (bif Nat.beq q q' then eqL tab fs m' m0 else false) with
      | false => rw [hb] at h; cases h
      | true =>
        rw [hb] at h
        cases h
        obtain ⟨g1, g2⟩ := cand hb
        exact ⟨by rw [Nat.eq_of_beq_eq_true g1], g2⟩
    · cases h
noncomputable def noW (q : Nat) (p : PD) : Bool := bif Nat.beq p.1 29 then (match p.2.1 with
  | [q'] => bif Nat.beq q q' then false else true
  | _ => true) else true
/-- none waits -/
noncomputable def hW0 (P q : Nat) : HF := fun pc _ A pr nx tab fs => bif Nat.beq pc P then (match A[q]? with
  | some (.inr (k, _)) => bif Nat.blt k 100 then some [(A, (29, [q], [kL 0, kL 0, kL 0, kL 0, kL 0]) :: pr.filter (noW q), nx, tab, fs)] else none
  | _ => none) else none
theorem okWt_0 (l : List Int32) : okWt l 0 0 0 0 0 := ⟨0, 0, 0, 0, 0, rfl, rfl, rfl, rfl, rfl, Nat.zero_le _, rfl⟩
theorem hW0_ok (P q : Nat) : HFOk PPk (hW0 P q) := by
  intro pc lv A pr nx tab fs L ρ clv cσ h hr hp
  unfold hW0 at h
  cases z : Nat.beq pc P with
  | false => rw [z] at h; cases h
  | true =>
    rw [z, cond_true] at h
    split at h
    · rename_i k r hA
      cases hk : Nat.blt k 100 with
      | false => rw [hk] at h; cases h
      | true =>
        rw [hk] at h
        cases h
        refine ⟨_, List.mem_cons_self, hGood0 (fun ρ' ha => ⟨(hr ρ' ha).1, (hr ρ' ha).2.1, (hr ρ' ha).2.2.2⟩) (fun ρ' ha => List.forall_mem_cons.mpr ⟨?_, fun p hq => hp ρ' ha p (List.mem_filter.mp hq).1⟩)⟩
        show okWt (arrI (cσ.getD q (.inl (0, [])))) (ev ρ' (kL 0)) (ev ρ' (kL 0)) (ev ρ' (kL 0)) (ev ρ' (kL 0)) (ev ρ' (kL 0))
        rw [show ev ρ' (kL 0) = 0 from ev_k ρ' 0]
        exact okWt_0 _
    · cases h
/-- two numbers are equal -/
noncomputable def asmE (tab : Tb) (fs : List Ln) : List (Ln × Ln) → Option (Tb × List Ln)
  | [] => some (tab, fs)
  | (x, y) :: r => match asm .eq tab fs x y with
    | some (tab', fs') => asmE tab' fs' r
    | none => none
theorem asmE_ok {ρ : Nat → Int} : ∀ {l : List (Ln × Ln)} {tab : Tb} {fs : List Ln}, tOk ρ tab → fOk ρ fs → (∀ q ∈ l, ev ρ q.1 = ev ρ q.2) → ∃ tab' fs', asmE tab fs l = some (tab', fs') ∧ tOk ρ tab' ∧ fOk ρ fs'
  | [], tab, fs, ht, hf, _ => ⟨tab, fs, rfl, ht, hf⟩
  | (x, y) :: r, tab, fs, ht, hf, h => by
    obtain ⟨t1, f1, e1, a1, a2⟩ := asm_ok (c := .eq) ht hf (show cndZ .eq (ev ρ x) (ev ρ y) from h (x, y) List.mem_cons_self)
    obtain ⟨t2, f2, e2, a3, a4⟩ := asmE_ok a1 a2 (fun q hq => h q (List.mem_cons_of_mem _ hq))
    refine ⟨t2, f2, ?_, a3, a4⟩
    show (match asm .eq tab fs x y with | some (tab', fs') => asmE tab' fs' r | none => none) = _
    rw [e1]
    exact e2
/-- as none waits, all is 0 -/
noncomputable def hWz (P q : Nat) : HF := fun pc lv A pr nx tab fs => bif Nat.beq pc P then (match waitO lv A with
  | some w => (match pr.findSome? (tlW9 tab fs q w) with
    | some (m, d, b, c, t) => bif eqL tab fs m (kL 0) then (match asmE tab fs [(d, kL 0), (b, kL 0), (c, kL 0), (t, kL 0)] with
      | some (tab', fs') => some [(A, pr, nx, tab', fs')]
      | none => some []) else none
    | none => none)
  | none => none) else none
theorem hWz_ok (P q : Nat) : HFOk PPk (hWz P q) := by
  intro pc lv A pr nx tab fs L ρ clv cσ h hr hp
  unfold hWz at h
  cases z : Nat.beq pc P with
  | false => rw [z] at h; cases h
  | true =>
    rw [z, cond_true] at h
    split at h
    · split at h
      · rename_i m d b c t h2
        obtain ⟨p2, m2, f2⟩ := List.exists_of_findSome?_eq_some h2
        cases hm : eqL tab fs m (kL 0) with
        | false => rw [hm] at h; cases h
        | true =>
          rw [hm, cond_true] at h
          have all : ∀ ρ', agr2 nx ρ ρ' → ∃ tab' fs', asmE tab fs [(d, kL 0), (b, kL 0), (c, kL 0), (t, kL 0)] = some (tab', fs') ∧ tOk ρ' tab' ∧ fOk ρ' fs' := fun ρ' ha => by
            obtain ⟨v1, v2, -⟩ := hr ρ' ha
            obtain ⟨k, D, B, C, T, e1, e2, e3, e4, e5, -, e7⟩ := tlW9_ok (hp ρ' ha) m2 f2
            have e0 := eqL_ok v1 v2 hm
            rw [show ev ρ' (kL 0) = 0 from ev_k ρ' 0] at e0
            have k0 : k = 0 := by omega
            subst k0
            rw [List.take_zero] at e7
            cases e7
            refine asmE_ok v1 v2 (fun q hq => ?_)
            have k0 : ev ρ' (kL 0) = 0 := ev_k ρ' 0
            rcases List.mem_cons.mp hq with rfl | hq
            · rw [k0]; exact e2
            rcases List.mem_cons.mp hq with rfl | hq
            · rw [k0]; exact e3
            rcases List.mem_cons.mp hq with rfl | hq
            · rw [k0]; exact e4
            rw [List.mem_singleton.mp hq, k0]; exact e5
          obtain ⟨t0, f0, a0, -⟩ := all ρ agr2.rf
          rw [a0] at h
          cases h
          refine ⟨_, List.mem_cons_self, ρ, Nat.le_refl _, agr2.rf, fun ρ' ha => ?_, fun ρ' ha => hp ρ' ha⟩
          obtain ⟨t1, f1, a1, a2, a3⟩ := all ρ' ha
          rw [a0] at a1
          cases a1
          exact ⟨a2, a3, (hr ρ' ha).2.2.2⟩
      · cases h
    · cases h
noncomputable def wpLo (T : Nat) : Int := match T with
  | 0 => 13
  | 1 => 12
  | 2 => 11
  | 3 => 8
  | 4 => 6
  | 5 => 4
  | _ => 2
noncomputable def wpHi (T : Nat) : Int := match T with
  | 0 => 13
  | 1 => 12
  | 2 => 11
  | 3 => 10
  | 4 => 7
  | 5 => 5
  | _ => 3
noncomputable def wpT (T : Nat) : Int := match T with
  | 0 => 6
  | 1 => 0
  | 2 => 1
  | 3 => 2
  | 4 => 3
  | 5 => 4
  | _ => 6
/-- what the top's tightness tells -/
noncomputable def wpQ (T : Nat) (c t : Ln) : List (Ln × Ln) := (t, kL (.ofNat T)) :: (bif Nat.blt T 3 then [(c, kL 0)] else bif Nat.beq T 3 then [(c, kL 1)] else [])
noncomputable def wpW (T nx : Nat) (m d b c : Ln) : List Ln := bif Nat.beq T 0 then [pluL m (-1), pluL d (-1), sL (nx + 2), sL (nx + 3), sL (nx + 1)] else bif Nat.beq T 3 then [pluL m (-1), d, b, kL 0, sL (nx + 1)] else [pluL m (-1), d, b, c, sL (nx + 1)]
noncomputable def wpF (T nx : Nat) (d b : Ln) (fs : List Ln) : List Ln := bif Nat.beq T 0 then subL b (addL (sclL 2 (sL (nx + 2))) (sL (nx + 3))) :: subL (addL (sclL 2 (sL (nx + 2))) (sL (nx + 3))) b :: subL (kL 1) d :: fs else fs
noncomputable def wpOne (A : AH) (pr : List PD) (nx : Nat) (tab : Tb) (fs : List Ln) (q : Nat) (m d b c t : Ln) (T : Nat) : Option HR := match asmE tab fs (wpQ T c t) with
  | none => none
  | some (tab1, fs1) => some (A, (7, [q], [pluL m (-1), sL nx]) :: (29, [q], wpW T nx m d b c) :: pr, nx + 4, tbIns (nx + 3) 0 1 (tbIns (nx + 1) 0 (wpT T) (tbIns nx (wpLo T) (wpHi T) tab1)), wpF T nx d b fs1)
/-- no bracket waits where none is open -/
noncomputable def wpTwo (A : AH) (pr : List PD) (nx : Nat) (tab : Tb) (fs : List Ln) (q : Nat) (m d b c t : Ln) (T : Nat) : Option HR := bif (bif Nat.beq T 0 then le0 tab fs d else false) then none else wpOne A pr nx tab fs q m d b c t T
noncomputable def scAll (nx : Nat) (l : List Ln) : Bool := l.all (scL nx)
/-- the top of the signs that wait, and what is below it -/
noncomputable def hWpop (P q : Nat) : HF := fun pc lv A pr nx tab fs => bif Nat.beq pc P then (match waitO lv A with
  | some w => (match pr.findSome? (tlW9 tab fs q w) with
    | some (m, d, b, c, t) => bif (bif scAll nx [m, d, b, c, t] then (bif le0 tab fs (subL (kL 1) m) then true else le0 tab fs (subL (kL 1) d)) else false) then some ((List.range 7).filterMap (wpTwo A pr nx tab fs q m d b c t)) else none
    | none => none)
  | none => none) else none
theorem hoT_cases {x : Int} (h : 4 ≤ x ∧ x ≤ 12) : (hoT x = 5 ∧ 4 ≤ x ∧ x ≤ 5) ∨ (hoT x = 4 ∧ 6 ≤ x ∧ x ≤ 7) ∨ (hoT x = 3 ∧ 8 ≤ x ∧ x ≤ 10) ∨ (hoT x = 2 ∧ x = 11) ∨ (hoT x = 1 ∧ x = 12) := by
  unfold hoT
  (repeat' split) <;> omega
/-- the word of the first m - 1, by the top's tightness -/
theorem okWt_pop {l : List Int32} {m d b c t : Int} (h : okWt l m d b c t) (h1 : 1 ≤ m ∨ 1 ≤ d) : ∃ (k T : Nat) (x t' b' c' : Int), m = ((k + 1 : Nat) : Int) ∧ t = T ∧ T < 7 ∧ k < l.length ∧ gI l k = x ∧ (wpLo T ≤ x ∧ x ≤ wpHi T) ∧ (0 ≤ t' ∧ t' ≤ wpT T) ∧ (0 ≤ c' ∧ c' ≤ 1) ∧ (T < 3 → c = 0) ∧ (T = 3 → c = 1) ∧ (T = 0 → b = 2 * b' + c' ∧ 1 ≤ d ∧ okWt l (m - 1) (d - 1) b' c' t') ∧ (T = 3 → okWt l (m - 1) d b 0 t') ∧ (T ≠ 0 → T ≠ 3 → okWt l (m - 1) d b c t') := by
  obtain ⟨k0, D, B, C, T, e1, e2, e3, e4, e5, e6, e7⟩ := h
  obtain ⟨k, rfl⟩ : ∃ k, k0 = k + 1 := by
    cases k0 with
    | zero =>
      rw [List.take_zero] at e7
      cases e7
      rcases h1 with h1 | h1 <;> omega
    | succ k => exact ⟨k, rfl⟩
  have hk : k < l.length := by omega
  rw [take_snoc hk, List.map_append, List.map_singleton] at e7
  have hb := wtF_bd _ rfl e7
  try dsimp only at hb
  obtain ⟨d', b', c', t', q1, q2, q3, q4⟩ := wtF_pop e7
  have hgx : (l.getD k 0).toInt = gI l k := rfl
  rw [hgx] at q4
  have mk : ∀ {D' B' C' T' : Nat}, wtF ((l.take k).map Int32.toInt) = some (D', B', C', T') → okWt l (m - 1) D' B' C' T' := fun h => ⟨k, _, _, _, _, by omega, rfl, rfl, rfl, rfl, by omega, h⟩
  have hc3 : T < 3 → C = 0 := fun h => by have := hb.1; have := hb.2.1; omega
  rcases q4 with ⟨x1, x2, x3, x4, x5⟩ | ⟨x1, x2, x3, x4, x5⟩ | ⟨x1, x2, x3, x4, x5, x6⟩
  · subst x5
    exact ⟨k, 0, gI l k, t', b', c', e1, e5, by decide, hk, rfl, by rw [x1]; exact ⟨Int.le_refl _, Int.le_refl _⟩, ⟨by omega, by show (t' : Int) ≤ 6; omega⟩, ⟨by omega, by omega⟩, fun _ => by omega, fun h => (by cases h), fun _ => ⟨by omega, by omega, by
      have := mk q1
      rw [show d - 1 = (d' : Int) by omega]
      exact this⟩, fun h => (by cases h), fun h _ => absurd rfl h⟩
  · subst x5
    exact ⟨k, 6, gI l k, t', 0, 0, e1, e5, by decide, hk, rfl, ⟨by show (2 : Int) ≤ _; omega, by show _ ≤ (3 : Int); omega⟩, ⟨by omega, by show (t' : Int) ≤ 6; omega⟩, ⟨by decide, by decide⟩, fun h => absurd h (by decide), fun h => absurd h (by decide), fun h => absurd h (by decide), fun h => absurd h (by decide), fun _ _ => by
      have := mk q1
      rw [show d = (d' : Int) by omega, show b = (b' : Int) by omega, show c = (c' : Int) by omega]
      exact this⟩
  · subst x4
    have hx := hoT_cases x1
    have tt : (t' : Int) ≤ wpT (hoT (gI l k)) := by
      rcases hx with ⟨y, -⟩ | ⟨y, -⟩ | ⟨y, -⟩ | ⟨y, -⟩ | ⟨y, -⟩ <;> rw [y] at x5 ⊢ <;> (simp only [wpT]; omega)
    refine ⟨k, hoT (gI l k), gI l k, t', 0, 0, e1, e5, by omega, hk, rfl, ?_, ⟨by omega, tt⟩, ⟨by decide, by decide⟩, fun h => by have := hc3 h; omega, fun h => ?_, fun h => ?_, fun h => ?_, fun _ h3 => ?_⟩
    · rcases hx with ⟨y, y1, y2⟩ | ⟨y, y1, y2⟩ | ⟨y, y1, y2⟩ | ⟨y, y1⟩ | ⟨y, y1⟩ <;> rw [y] <;> (simp only [wpLo, wpHi]; omega)
    · rcases x6 with ⟨-, z2, -⟩ | ⟨z1, -⟩
      · omega
      · exact absurd h z1
    · exact absurd h (by omega)
    · rcases x6 with ⟨-, -, z3⟩ | ⟨z1, -⟩
      · have := mk q1
        rw [show d = (d' : Int) by omega, show b = (b' : Int) by omega]
        rw [z3] at this
        exact this
      · exact absurd h z1
    · rcases x6 with ⟨z1, -⟩ | ⟨-, z2⟩
      · exact absurd z1 h3
      · have := mk q1
        rw [show d = (d' : Int) by omega, show b = (b' : Int) by omega, show c = (c' : Int) by omega]
        exact this
noncomputable def ro4 (ρ : Nat → Int) (n : Nat) (x y z w : Int) : Nat → Int := fun j => if j = n then x else if j = n + 1 then y else if j = n + 2 then z else if j = n + 3 then w else ρ j
theorem ro4_lt {ρ : Nat → Int} {n : Nat} {x y z w : Int} {j : Nat} (h : j < n) : ro4 ρ n x y z w j = ρ j := by
  show (if j = n then x else if j = n + 1 then y else if j = n + 2 then z else if j = n + 3 then w else ρ j) = ρ j
  rw [if_neg (by omega), if_neg (by omega), if_neg (by omega), if_neg (by omega)]
theorem ro4_0 {ρ : Nat → Int} {n : Nat} {x y z w : Int} : ro4 ρ n x y z w n = x := if_pos rfl
theorem ro4_1 {ρ : Nat → Int} {n : Nat} {x y z w : Int} : ro4 ρ n x y z w (n + 1) = y := by
  show (if n + 1 = n then x else if n + 1 = n + 1 then y else if n + 1 = n + 2 then z else if n + 1 = n + 3 then w else ρ (n + 1)) = y
  rw [if_neg (by omega), if_pos rfl]
theorem ro4_2 {ρ : Nat → Int} {n : Nat} {x y z w : Int} : ro4 ρ n x y z w (n + 2) = z := by
  show (if n + 2 = n then x else if n + 2 = n + 1 then y else if n + 2 = n + 2 then z else if n + 2 = n + 3 then w else ρ (n + 2)) = z
  rw [if_neg (by omega), if_neg (by omega), if_pos rfl]
theorem ro4_3 {ρ : Nat → Int} {n : Nat} {x y z w : Int} : ro4 ρ n x y z w (n + 3) = w := by
  show (if n + 3 = n then x else if n + 3 = n + 1 then y else if n + 3 = n + 2 then z else if n + 3 = n + 3 then w else ρ (n + 3)) = w
  rw [if_neg (by omega), if_neg (by omega), if_neg (by omega), if_pos rfl]
theorem hWpop_ok (P q : Nat) : HFOk PPk (hWpop P q) := by
  intro pc lv A pr nx tab fs L ρ clv cσ h hr hp
  unfold hWpop at h
  cases z : Nat.beq pc P with
  | false => rw [z] at h; cases h
  | true =>
    rw [z, cond_true] at h
    split at h
    · split at h
      · rename_i m d b c t h2
        obtain ⟨p2, m2, f2⟩ := List.exists_of_findSome?_eq_some h2
        cases hm : (bif scAll nx [m, d, b, c, t] then (bif le0 tab fs (subL (kL 1) m) then true else le0 tab fs (subL (kL 1) d)) else false) with
        | false => rw [hm] at h; cases h
        | true =>
          rw [hm] at h
          cases h
          obtain ⟨hsc, hle⟩ := cand hm
          have sc : ∀ e ∈ [m, d, b, c, t], scL nx e = true := fun e he => List.all_eq_true.mp hsc e he
          obtain ⟨u1, u2, -⟩ := hr ρ agr2.rf
          have h1 : 1 ≤ ev ρ m ∨ 1 ≤ ev ρ d := by
            have k1 : ev ρ (kL 1) = 1 := ev_k ρ 1
            cases y : le0 tab fs (subL (kL 1) m) with
            | true => have := le0_ok u1 u2 y; rw [ev_sub, k1] at this; exact Or.inl (by omega)
            | false => rw [y, cond_false] at hle; have := le0_ok u1 u2 hle; rw [ev_sub, k1] at this; exact Or.inr (by omega)
          obtain ⟨k, T, x, t', b', c', e1, e2, e3, e4, e5, e6, e7, e8, e9, e10, e11, e12, e13⟩ := okWt_pop (tlW9_ok (hp ρ agr2.rf) m2 f2) h1
          have agm : ∀ ρ', agr2 nx ρ ρ' → ev ρ' m = ev ρ m := fun ρ' ha => scL_ev ha (sc m (by simp))
          have agd : ∀ ρ', agr2 nx ρ ρ' → ev ρ' d = ev ρ d := fun ρ' ha => scL_ev ha (sc d (by simp))
          have agb : ∀ ρ', agr2 nx ρ ρ' → ev ρ' b = ev ρ b := fun ρ' ha => scL_ev ha (sc b (by simp))
          have agc : ∀ ρ', agr2 nx ρ ρ' → ev ρ' c = ev ρ c := fun ρ' ha => scL_ev ha (sc c (by simp))
          have agt : ∀ ρ', agr2 nx ρ ρ' → ev ρ' t = ev ρ t := fun ρ' ha => scL_ev ha (sc t (by simp))
          have hQ : ∀ ρ', agr2 nx ρ ρ' → ∃ tab' fs', asmE tab fs (wpQ T c t) = some (tab', fs') ∧ tOk ρ' tab' ∧ fOk ρ' fs' := fun ρ' ha => by
            obtain ⟨v1, v2, -⟩ := hr ρ' ha
            refine asmE_ok v1 v2 (fun y hy => ?_)
            unfold wpQ at hy
            rcases List.mem_cons.mp hy with rfl | hy
            · show ev ρ' t = ev ρ' (kL (.ofNat T))
              rw [ev_ki, agt ρ' ha, e2]
            · cases y3 : Nat.blt T 3 with
              | true =>
                rw [y3, cond_true] at hy
                rw [List.mem_singleton.mp hy]
                show ev ρ' c = ev ρ' (kL 0)
                rw [agc ρ' ha, show ev ρ' (kL 0) = 0 from ev_k ρ' 0]
                exact e9 (blt_iff.mp y3)
              | false =>
                rw [y3, cond_false] at hy
                cases y4 : Nat.beq T 3 with
                | true =>
                  rw [y4, cond_true] at hy
                  rw [List.mem_singleton.mp hy]
                  show ev ρ' c = ev ρ' (kL 1)
                  rw [agc ρ' ha, show ev ρ' (kL 1) = 1 from ev_k ρ' 1]
                  exact e10 (Nat.eq_of_beq_eq_true y4)
                | false => rw [y4] at hy; cases hy
          have hg : (bif Nat.beq T 0 then le0 tab fs d else false) = false := by
            cases y : Nat.beq T 0 with
            | false => rfl
            | true =>
              rw [cond_true]
              cases y2 : le0 tab fs d with
              | false => rfl
              | true =>
                have g1 := le0_ok u1 u2 y2
                obtain ⟨-, g2, -⟩ := e11 (Nat.eq_of_beq_eq_true y)
                omega
          obtain ⟨tab1, fs1, a1, -⟩ := hQ ρ agr2.rf
          refine ⟨(A, (7, [q], [pluL m (-1), sL nx]) :: (29, [q], wpW T nx m d b c) :: pr, nx + 4, tbIns (nx + 3) 0 1 (tbIns (nx + 1) 0 (wpT T) (tbIns nx (wpLo T) (wpHi T) tab1)), wpF T nx d b fs1), List.mem_filterMap.mpr ⟨T, List.mem_range.mpr e3, by unfold wpTwo; rw [hg, cond_false]; unfold wpOne; rw [a1]⟩, ro4 ρ nx x t' b' c', by show nx ≤ nx + 4; omega, fun j hj => ro4_lt hj, fun ρ' ha => ?_, fun ρ' ha => ?_⟩
          all_goals
            have ha' : agr2 nx ρ ρ' := fun j hj => (ha j (by show j < nx + 4; omega)).trans (ro4_lt hj)
            have w0 : ρ' nx = x := (ha nx (by show nx < nx + 4; omega)).trans ro4_0
            have w1 : ρ' (nx + 1) = t' := (ha (nx + 1) (by show nx + 1 < nx + 4; omega)).trans ro4_1
            have w2 : ρ' (nx + 2) = b' := (ha (nx + 2) (by show nx + 2 < nx + 4; omega)).trans ro4_2
            have w3 : ρ' (nx + 3) = c' := (ha (nx + 3) (by show nx + 3 < nx + 4; omega)).trans ro4_3
          · obtain ⟨t2, f2', a2, a3, a4⟩ := hQ ρ' ha'
            rw [a1] at a2
            cases a2
            refine ⟨tOk_cons (tOk_cons (tOk_cons a3 (by rw [w0]; exact e6.1) (by rw [w0]; exact e6.2)) (by rw [w1]; exact e7.1) (by rw [w1]; exact e7.2)) (by rw [w3]; exact e8.1) (by rw [w3]; exact e8.2), ?_, (hr ρ' ha').2.2.2⟩
            show fOk ρ' (wpF T nx d b fs1)
            unfold wpF
            cases y : Nat.beq T 0 with
            | false => exact a4
            | true =>
              obtain ⟨b1, b2, -⟩ := e11 (Nat.eq_of_beq_eq_true y)
              have es : ev ρ' (addL (sclL 2 (sL (nx + 2))) (sL (nx + 3))) = 2 * b' + c' := by rw [ev_add, ev_scl, ev_s, ev_s, w2, w3]
              refine fOk_cons (fOk_cons (fOk_cons a4 ?_) ?_) ?_
              · rw [ev_sub, show ev ρ' (kL 1) = 1 from ev_k ρ' 1, agd ρ' ha']; omega
              · rw [ev_sub, es, agb ρ' ha', b1]; omega
              · rw [ev_sub, es, agb ρ' ha', b1]; omega
          · have em : ev ρ' (pluL m (-1)) = (k : Int) := by rw [ev_plu, agm ρ' ha', e1]; omega
            refine pr_7 (List.forall_mem_cons.mpr ⟨?_, hp ρ' ha'⟩) em (by rw [ev_s, w0]; exact e5)
            have em' : ev ρ' (pluL m (-1)) = ev ρ m - 1 := by rw [ev_plu, agm ρ' ha']; omega
            cases y : Nat.beq T 0 with
            | true =>
              have T0 := Nat.eq_of_beq_eq_true y
              obtain ⟨-, -, b3⟩ := e11 T0
              show PPk 29 [_] ((wpW T nx m d b c).map (ev ρ'))
              unfold wpW
              rw [y, cond_true]
              show okWt (arrI (cσ.getD q (.inl (0, [])))) (ev ρ' (pluL m (-1))) (ev ρ' (pluL d (-1))) (ev ρ' (sL (nx + 2))) (ev ρ' (sL (nx + 3))) (ev ρ' (sL (nx + 1)))
              rw [em', ev_plu, agd ρ' ha', ev_s, ev_s, ev_s, w1, w2, w3]
              exact b3
            | false =>
              have T0 : T ≠ 0 := fun e => by rw [e] at y; cases y
              cases y3 : Nat.beq T 3 with
              | true =>
                show PPk 29 [_] ((wpW T nx m d b c).map (ev ρ'))
                unfold wpW
                rw [y, y3, cond_false, cond_true]
                show okWt (arrI (cσ.getD q (.inl (0, [])))) (ev ρ' (pluL m (-1))) (ev ρ' d) (ev ρ' b) (ev ρ' (kL 0)) (ev ρ' (sL (nx + 1)))
                rw [em', agd ρ' ha', agb ρ' ha', show ev ρ' (kL 0) = 0 from ev_k ρ' 0, ev_s, w1]
                exact e12 (Nat.eq_of_beq_eq_true y3)
              | false =>
                have T3 : T ≠ 3 := fun e => by rw [e] at y3; cases y3
                show PPk 29 [_] ((wpW T nx m d b c).map (ev ρ'))
                unfold wpW
                rw [y, y3, cond_false, cond_false]
                show okWt (arrI (cσ.getD q (.inl (0, [])))) (ev ρ' (pluL m (-1))) (ev ρ' d) (ev ρ' b) (ev ρ' c) (ev ρ' (sL (nx + 1)))
                rw [em', agd ρ' ha', agb ρ' ha', agc ρ' ha', ev_s, w1]
                exact e13 T0 T3
      · cases h
    · cases h
/-- a bracket closes, with what the waiting signs tell -/
noncomputable def hPopW (P q : Nat) : HF := fun pc lv A pr nx tab fs => bif Nat.beq pc P then (match pr.findSome? f28, waitO lv A with
  | some (n, t, i, w, d, b, _), some m => (match pr.findSome? (fKlas tab fs n t i), pr.findSome? (tlW9 tab fs q m) with
    | some k, some (_, _, b2, c2, _) => bif (bif (bif Nat.beq k 5 then (bif Nat.beq w 1 then Nat.blt 0 d else false) else false) then (bif eqL tab fs (subL b (sclL 2 b2)) c2 then (bif le0 tab fs (sclL (-1) c2) then le0 tab fs (pluL c2 (-1)) else false) else false) else false) then some [(A, (28, [], [n, t, pluL i 1, (.ofNat 1, []), (.ofNat (Nat.pred d), []), b2, c2]) :: pr.filter noRe, nx, tab, fs)] else none
    | _, _ => none)
  | _, _ => none) else none
theorem hPopW_ok (P q : Nat) : HFOk PPk (hPopW P q) := by
  intro pc lv A pr nx tab fs L ρ clv cσ h hr hp
  unfold hPopW at h
  cases z : Nat.beq pc P with
  | false => rw [z] at h; cases h
  | true =>
    rw [z, cond_true] at h
    split at h
    · rename_i n t i w d b c m h1 hw
      obtain ⟨p1, m1, f1⟩ := List.exists_of_findSome?_eq_some h1
      split at h
      · rename_i k m' d2 b2 c2 t2 h2 h3
        obtain ⟨p2, m2, f2⟩ := List.exists_of_findSome?_eq_some h2
        cases hb : (bif (bif Nat.beq k 5 then (bif Nat.beq w 1 then Nat.blt 0 d else false) else false) then (bif eqL tab fs (subL b (sclL 2 b2)) c2 then (bif le0 tab fs (sclL (-1) c2) then le0 tab fs (pluL c2 (-1)) else false) else false) else false) with
        | false => rw [hb] at h; cases h
        | true =>
          rw [hb] at h
          cases h
          obtain ⟨hb, hb2⟩ := cand hb
          obtain ⟨g1, hb⟩ := cand hb
          obtain ⟨g2, g3⟩ := cand hb
          obtain ⟨g4, hb2⟩ := cand hb2
          obtain ⟨g5, g6⟩ := cand hb2
          have k5 := Nat.eq_of_beq_eq_true g1
          have w1 := Nat.eq_of_beq_eq_true g2
          have d0 := blt_iff.mp g3
          refine ⟨_, List.mem_cons_self, hGood0 (fun ρ' ha => ⟨(hr ρ' ha).1, (hr ρ' ha).2.1, (hr ρ' ha).2.2.2⟩) (fun ρ' ha => List.forall_mem_cons.mpr ⟨?_, fun p hq => hp ρ' ha p (List.mem_filter.mp hq).1⟩)⟩
          obtain ⟨u1, u2, -⟩ := hr ρ' ha
          have h4 := f28_ok (hp ρ' ha) m1 f1
          obtain ⟨i0, -, -, b0, c0, ei, -, -, eb, ec⟩ := wRe_nat h4
          have x1 := eqL_ok u1 u2 g4
          have x2 := le0_ok u1 u2 g5
          have x3 := le0_ok u1 u2 g6
          rw [ev_sub, ev_scl, eb] at x1
          rw [ev_scl] at x2
          rw [ev_plu] at x3
          have ex : ev ρ' b2 = ((b0 / 2 : Nat) : Int) := by omega
          have er : ev ρ' c2 = ((b0 % 2 : Nat) : Int) := by omega
          have h5 := fKlas_ok u1 u2 (hp ρ' ha) m2 f2
          rw [ei, eb, ec] at h4
          rw [ei] at h5
          obtain ⟨v, hv, ek⟩ := wCl_v h5 (by omega)
          have kv : rdC v = 5 := by omega
          have h6 := wRe_tok (s := (i0 + 1, 1, d - 1, b0 / 2, b0 % 2)) h4 hv (by omega) (by simp only [rdNx]; rw [if_neg (by omega), if_pos w1, if_pos ⟨kv, d0⟩])
          show wRe (ev ρ' n) (ev ρ' t) (ev ρ' (pluL i 1)) (ev ρ' ((.ofNat 1, []) : Ln)) (ev ρ' ((.ofNat (Nat.pred d), []) : Ln)) (ev ρ' b2) (ev ρ' c2)
          rw [ex, er, show ev ρ' ((.ofNat 1, []) : Ln) = ((1 : Nat) : Int) from ev_k ρ' 1, show ev ρ' ((.ofNat (Nat.pred d), []) : Ln) = ((d - 1 : Nat) : Int) from ev_k ρ' _, ev_plu, ei]
          exact h6
      · cases h
    · cases h
-- sums of what is told of a symbol with what is told beside it
noncomputable def sm2 (e : Ln) : Bool := match e.2 with
  | [] => true
  | [(_, a)] => bif eqI a 1 then true else eqI a (-1)
  | [(_, a), (_, b)] => bif (bif eqI a 1 then true else eqI a (-1)) then (bif eqI b 1 then true else eqI b (-1)) else false
  | _ => false
noncomputable def sumY (y : Nat) (fs : List Ln) : List Ln := (sumFs (fs.filter (fun f => memT y f.2)) (fs.filter (fun g => !memT y g.2))).filter sm2
theorem sumY_ok {ρ : Nat → Int} {y : Nat} {fs : List Ln} (h : fOk ρ fs) : fOk ρ (sumY y fs ++ fs) := fun q hq => by
  rcases List.mem_append.mp hq with hq | hq
  · exact sumFs_ok (fun f hf => h f (List.mem_filter.mp hf).1) (fun f hf => h f (List.mem_filter.mp hf).1) q (List.mem_filter.mp hq).1
  · exact h q hq
noncomputable def hSs (P y : Nat) : HF := fun pc _ A pr nx tab fs => bif Nat.beq pc P then some [(A, pr, nx, tab, sumY y fs ++ fs)] else none
theorem hSs_ok (P y : Nat) : HFOk PPk (hSs P y) := by
  intro pc lv A pr nx tab fs L ρ clv cσ h hr hp
  unfold hSs at h
  cases z : Nat.beq pc P with
  | false => rw [z] at h; cases h
  | true =>
    rw [z] at h
    cases h
    exact ⟨_, List.mem_cons_self, hGood0 (fun ρ' ha => ⟨(hr ρ' ha).1, sumY_ok (hr ρ' ha).2.1, (hr ρ' ha).2.2.2⟩) hp⟩
noncomputable def hSl (P k : Nat) : HF := fun pc lv A pr nx tab fs => bif Nat.beq pc P then (match alGet k lv with
  | some (.inl (false, (_, (y, _) :: _))) => some [(A, pr, nx, tab, sumY y fs ++ fs)]
  | _ => none) else none
theorem hSl_ok (P k : Nat) : HFOk PPk (hSl P k) := by
  intro pc lv A pr nx tab fs L ρ clv cσ h hr hp
  unfold hSl at h
  cases z : Nat.beq pc P with
  | false => rw [z] at h; cases h
  | true =>
    rw [z, cond_true] at h
    split at h
    · cases h
      exact ⟨_, List.mem_cons_self, hGood0 (fun ρ' ha => ⟨(hr ρ' ha).1, sumY_ok (hr ρ' ha).2.1, (hr ρ' ha).2.2.2⟩) hp⟩
    · cases h
/-! ===== macros: a character told is loaded; a text grows, is copied; one sign more waits ===== -/
noncomputable def tCl (_ : Nat) (e : XE) : Bool := match e with
  | (.caload, _, 3, _, _) => true
  | _ => false
noncomputable def mCL (P : Nat) : MC := fun _ tb pc st lv A pr nx tab fs => bif Nat.beq pc P then (match tbGet tb pc with
  | some e => bif tCl pc e then (match st with
    | .inl (false, i) :: .inr (.inl (some q)) :: r => (match A[q]? with
      | some (.inr (k, .inl s)) => bif Nat.beq k 2 then (match findE tab fs q i pr, idxR tab fs i with
        | some v, some (_, u) => bif Nat.blt u (sgLen s) then some (pc + e.2.1, .inl (false, v) :: r, lv, A, pr, nx, tab, fs) else none
        | _, _ => none) else none
      | _ => none)
    | _ => none) else none
  | none => none) else none
theorem mCL_ok (P : Nat) : McOk PPk (mCL P) := by
  intro ini o nL tb d Q pc st lv A pr nx tab fs pc' st' lv' A' pr' nx' tab' fs' ρ cst0 clv cσ hM hr hp hlv
  unfold mCL at hM
  obtain ⟨-, hM⟩ : _ ∧ _ := by
    cases z : Nat.beq pc P with
    | false => rw [z] at hM; cases hM
    | true => rw [z, cond_true] at hM; exact ⟨trivial, hM⟩
  split at hM
  · rename_i e he
    cases ht : tCl pc e with
    | false => rw [ht] at hM; cases hM
    | true =>
      rw [ht, cond_true] at hM
      split at hM
      · rename_i i q r _
        split at hM
        · rename_i k s hA
          cases hk : Nat.beq k 2 with
          | false => rw [hk] at hM; cases hM
          | true =>
            rw [hk, cond_true] at hM
            have ek := Nat.eq_of_beq_eq_true hk
            subst ek
            split at hM
            · rename_i v u0 u hv hidx
              cases hu : Nat.blt u (sgLen s) with
              | false => rw [hu] at hM; cases hM
              | true =>
                rw [hu] at hM
                cases hM
                obtain ⟨i', hm, heq⟩ := findE_ok hv
                obtain ⟨t1, t2, t3, t4, t5⟩ := hr ρ agr2.rf
                obtain ⟨v1, c1, e1, h1, hs1⟩ := rel2_cons t3
                obtain ⟨v2, c2, e2, h2, hs2⟩ := rel2_cons hs1
                obtain ⟨x, e3, hx⟩ := vI_inv h1
                have e4 := vR_inv h2
                subst e1; subst e2; subst e3; subst e4
                obtain ⟨cc, hc1, hc2⟩ := rel2_get t5 hA
                obtain ⟨l, e5, hl⟩ := crI_inv (by decide) hc2
                subst e5
                have hlen := srel_len hl
                obtain ⟨p1, p2, p3⟩ := idxR_ok t1 t2 hx hidx
                have p4 := blt_iff.mp hu
                have hin : inB x l.length = true := by
                  simp only [inB, Bool.and_eq_true, decide_eq_true_eq]
                  exact ⟨p1, by omega⟩
                refine ⟨.int (l.getD x.toNatClampNeg 0) :: c2, clv, cσ, ρ, Nat.le_refl _, agr2.rf, fun ρ' ha => ?_, hp, hlv, fun cca ccb hg => ?_⟩
                · obtain ⟨w1, w2, w3, w4, w5⟩ := hr ρ' ha
                  obtain ⟨v1', d1, f1, g1, hs1'⟩ := rel2_cons w3
                  cases f1
                  obtain ⟨v2', d2, f2, -, hs2'⟩ := rel2_cons hs1'
                  cases f2
                  obtain ⟨x', y1, hx'⟩ := vI_inv g1
                  cases y1
                  refine ⟨w1, w2, ⟨⟨_, rfl, ?_⟩, hs2'⟩, w4, w5⟩
                  have hp' : PPk 7 [arrI (cσ.getD q (.inl (0, [])))] [ev ρ' i', ev ρ' v] := hp ρ' ha _ hm
                  have e6 : arrI (cσ.getD q (.inl (0, []))) = l := by
                    rw [List.getD_eq_getElem?_getD, hc1]
                    rfl
                  rw [e6] at hp'
                  have h7 := ldk l _ _ hp'
                  rw [← eqL_ok w1 w2 heq, ← hx'] at h7
                  exact h7
                · obtain ⟨i0, len, g, a, b, w⟩ := e
                  unfold tCl at ht
                  split at ht
                  · rename_i heq2
                    cases heq2
                    have hst : stepD none .caload a b (.int x :: .ref q :: c2) cσ = some (.int (l.getD x.toNatClampNeg 0) :: c2) := by
                      show aI 2 (.int x :: .ref q :: c2) cσ = _
                      unfold aI
                      simp only [hc1]
                      rw [if_pos ⟨trivial, hin⟩]
                    exact Good.step (by simp only [nxt, he, hst, Option.map_some]) hg
                  · cases ht
            · cases hM
        · cases hM
      · cases hM
  · cases hM
noncomputable def tSto (_ : Nat) (e : XE) : Bool := match e with
  | (.iastore, _, 4, _, _) => true
  | (.castore, _, 4, _, _) => true
  | _ => false
theorem tSto_inv {pc : Nat} {i : Instr} {len g a b w : Nat} (h : tSto pc (i, len, g, a, b, w) = true) : (i = .iastore ∨ i = .castore) ∧ g = 4 := by
  unfold tSto at h
  split at h
  · rename_i heq
    cases heq
    exact ⟨Or.inl rfl, rfl⟩
  · rename_i heq
    cases heq
    exact ⟨Or.inr rfl, rfl⟩
  · cases h
theorem sto_sh {ini : Bool} {o a b : Nat} {i : Instr} {cst cr : List Value} {σ σ1 : SH} (hi : i = .iastore ∨ i = .castore) (h : stepE ini o i a b cst σ = some (cr, σ1)) : ∃ (x j : Int32) (q k : Nat) (l : List Int32) (y : Int32), cst = .int x :: .int j :: .ref q :: cr ∧ σ[q]? = some (.inr (k, .inl l)) ∧ inB j l.length = true ∧ σ1 = σ.set q (.inr (k, .inl (l.set j.toNatClampNeg y))) ∧ (0 ≤ x.toInt → x.toInt ≤ 65535 → y = x) := by
  rcases hi with rfl | rfl
  · obtain ⟨x, j, q, li, e1, e2, e3, e4⟩ := sI_inv h
    exact ⟨x, j, q, 0, li, _, e1, e2, e3, e4, fun _ _ => nar_int x⟩
  · obtain ⟨x, j, q, li, e1, e2, e3, e4⟩ := sI_inv h
    exact ⟨x, j, q, 2, li, _, e1, e2, e3, e4, fun h1 h2 => nar_char ⟨h1, h2⟩⟩
theorem take_set_snoc {l : List Int32} {m : Nat} {x : Int32} (h : m < l.length) : (l.set m x).take (m + 1) = l.take m ++ [x] := by
  rw [take_snoc (by rw [List.length_set]; exact h), List.take_set_of_le (Nat.le_refl m)]
  congr 1
  rw [List.getD_eq_getElem?_getD, List.getElem?_set_self h]
  rfl
theorem okTr_set {l : List Int32} {o n t v : Int} {j : Nat} {x : Int32} (h : okTr l o n t) (hj : (j : Int) = o + n) (hl : j < l.length) (hn : n ≤ 59) (hx : x.toInt = v) (hv : 0 ≤ v ∧ v ≤ 127) : okTr (l.set j x) o (n + 1) (128 * t + v) := by
  obtain ⟨p, m, rfl, rfl, hm, hpl, hx0⟩ := h
  have ej : j = p + m := by omega
  subst ej
  refine ⟨p, m + 1, rfl, by simp, by omega, by rw [List.length_set]; omega, ?_⟩
  have e1 : (l.set (p + m) x).drop p = (l.drop p).set m x := by
    rw [List.drop_set, if_neg (by omega), Nat.add_sub_cancel_left]
  rw [e1, take_set_snoc (by rw [List.length_drop]; omega), List.map_append, List.map_singleton, hx]
  exact okTx_app hx0 hv.1 hv.2
/-- the text that ends where a store goes -/
noncomputable def fTx (tab : Tb) (fs : List Ln) (q : Nat) (e : Ln) (p : PD) : Option (Ln × Ln × Ln) := match f10o q p with
  | some (o, n, t) => bif eqL tab fs e (addL o n) then some (o, n, t) else none
  | none => none
noncomputable def mTx (P : Nat) : MC := fun _ tb pc st lv A pr nx tab fs => bif Nat.beq pc P then (match tbGet tb pc with
  | some e => bif tSto pc e then (match st with
    | .inl (false, v) :: .inl (false, j) :: .inr (.inl (some q)) :: r => (match pr.findSome? (fTx tab fs q j), g4 false 0 e.1 0 0 tab fs A pr st with
      | some (o, n, t), some (rest, A', pr') => bif (bif inF tab fs (.ofNat 0) (.ofNat 127) v then le0 tab fs (pluL n (-59)) else false) then some (pc + e.2.1, rest, lv, A', (10, [q], [o, pluL n 1, addL (sclL 128 t) v, kL 0, kL 0]) :: pr', nx, tab, fs) else none
      | _, _ => none)
    | _ => none) else none
  | none => none) else none
theorem g4_sto {ini : Bool} {o a b : Nat} {i : Instr} (hi : i = .iastore ∨ i = .castore) (tab : Tb) (fs : List Ln) (A : AH) (pr : List PD) (st : List AV) : g4 ini o i a b tab fs A pr st = g4 false 0 i 0 0 tab fs A pr st := by
  rcases hi with rfl | rfl <;> rfl
theorem mTx_ok (P : Nat) : McOk PPk (mTx P) := by
  intro ini o nL tb d Q pc st lv A pr nx tab fs pc' st' lv' A' pr' nx' tab' fs' ρ cst0 clv cσ hM hr hp hlv
  unfold mTx at hM
  obtain ⟨-, hM⟩ : _ ∧ _ := by
    cases z : Nat.beq pc P with
    | false => rw [z] at hM; cases hM
    | true => rw [z, cond_true] at hM; exact ⟨trivial, hM⟩
  split at hM
  · rename_i e he
    cases ht : tSto pc e with
    | false => rw [ht] at hM; cases hM
    | true =>
      rw [ht, cond_true] at hM
      split at hM
      · rename_i v j q r _
        split at hM
        · rename_i o1 n t rest A1 pr1 hz hg
          cases hb : (bif inF tab fs (.ofNat 0) (.ofNat 127) v then le0 tab fs (pluL n (-59)) else false) with
          | false => rw [hb] at hM; cases hM
          | true =>
            rw [hb] at hM
            cases hM
            obtain ⟨b1, b2⟩ := cand hb
            obtain ⟨i, len, g, a, b, w⟩ := e
            obtain ⟨hi, rfl⟩ := tSto_inv ht
            obtain ⟨p1, m1, f1⟩ := List.exists_of_findSome?_eq_some hz
            have hg' : g4 ini o i a b tab fs A pr (.inl (false, v) :: .inl (false, j) :: .inr (.inl (some q)) :: r) = some (st', A', pr1) := by rw [g4_sto hi]; exact hg
            obtain ⟨t1, t2, t3, t4, t5⟩ := hr ρ agr2.rf
            obtain ⟨cr, σ1, hst, -⟩ := g4_ok (PP := PPk) fpk t1 t2 t3 t5 hg'
            obtain ⟨x, jj, q', k, l, y, e1, e2, e3, e4, e5⟩ := sto_sh hi hst
            have all : ∀ ρ', agr2 nx ρ ρ' → rel2 (vrel ρ') cr st' ∧ rel2 (crel ρ') σ1 A' ∧ (prOk PPk ρ' cσ pr → prOk PPk ρ' σ1 pr1) ∧ σ1.length = cσ.length := fun ρ' ha => by
              obtain ⟨p1, p2, p3, p4, p5⟩ := hr ρ' ha
              obtain ⟨cr', σ2, hst', a1, a2, a3, a4⟩ := g4_ok (PP := PPk) fpk p1 p2 p3 p5 hg'
              rw [hst] at hst'
              cases hst'
              exact ⟨a1, a2, a3, a4⟩
            refine ⟨cr, clv, σ1, ρ, Nat.le_refl _, agr2.rf, fun ρ' ha => ⟨(hr ρ' ha).1, (hr ρ' ha).2.1, (all ρ' ha).1, (hr ρ' ha).2.2.2.1, (all ρ' ha).2.1⟩, fun ρ' ha => List.forall_mem_cons.mpr ⟨?_, (all ρ' ha).2.2.1 (hp ρ' ha)⟩, by rw [(all ρ agr2.rf).2.2.2]; exact hlv, fun cca ccb hgd => ?_⟩
            · obtain ⟨w1, w2, w3, w4, w5⟩ := hr ρ' ha
              rw [e1] at w3
              obtain ⟨v1, d1, y1, h1, hs1⟩ := rel2_cons w3
              cases y1
              obtain ⟨v2, d2, y2, h2, hs2⟩ := rel2_cons hs1
              cases y2
              obtain ⟨v3, d3, y3, h3, -⟩ := rel2_cons hs2
              cases y3
              obtain ⟨x', z1, hx⟩ := vI_inv h1
              cases z1
              obtain ⟨j', z2, hj⟩ := vI_inv h2
              cases z2
              have z3 := vR_inv h3
              cases z3
              have hv := inF_ok w1 w2 b1
              have hv0 : (0 : Int) ≤ ev ρ' v := hv.1
              have hv1 : ev ρ' v ≤ (127 : Int) := hv.2
              have hn := le0_ok w1 w2 b2
              rw [ev_plu] at hn
              unfold fTx at f1
              split at f1
              · rename_i o2 n2 t2' h10
                cases hq : eqL tab fs j (addL o2 n2) with
                | false => rw [hq] at f1; cases f1
                | true =>
                  rw [hq] at f1
                  cases f1
                  have hje := eqL_ok w1 w2 hq
                  rw [ev_add] at hje
                  have hT := f10o_ok (hp ρ' ha) m1 h10
                  have el : arrI (cσ.getD q (.inl (0, []))) = l := by
                    rw [List.getD_eq_getElem?_getD, e2]
                    rfl
                  rw [el] at hT
                  have hy : y = x := e5 (by omega) (by omega)
                  subst hy
                  have hlt : q < cσ.length := (List.getElem?_eq_some_iff.mp e2).1
                  have el1 : arrI (σ1.getD q (.inl (0, []))) = l.set jj.toNatClampNeg y := by
                    rw [e4, List.getD_eq_getElem?_getD, List.getElem?_set_self hlt]
                    rfl
                  show 10 = 10 ∧ okTr (arrI (σ1.getD q (.inl (0, [])))) (ev ρ' o1) (ev ρ' (pluL n 1)) (ev ρ' (addL (sclL 128 t) v))
                  rw [el1, ev_plu, ev_add, ev_scl]
                  refine ⟨rfl, okTr_set hT ?_ (inB_lt e3) (by omega) hx ⟨hv0, hv1⟩⟩
                  have h0 : ¬ jj < 0 := fun hlt => inB_in e3 (Or.inl hlt)
                  have hc : (jj.toNatClampNeg : Int) = jj.toInt := by
                    have h00 : (0 : Int32).toInt = 0 := rfl
                    rw [Int32.lt_iff_toInt_lt, h00] at h0
                    show ((jj.toInt.toNat : Nat) : Int) = jj.toInt
                    omega
                  omega
              · cases f1
            · exact Good.step (by simp only [nxt, he, hst, Option.map_some]) hgd
        · cases hM
      · cases hM
  · cases hM
/-- one sign more -/
noncomputable def wsW (tab : Tb) (fs : List Ln) (x : Nat) (m d b c t : Ln) : Option (List Ln) := bif Nat.beq x 13 then some [pluL m 1, pluL d 1, addL (sclL 2 b) c, kL 0, kL 0] else bif (bif Nat.beq x 2 then true else Nat.beq x 3) then some [pluL m 1, d, b, c, kL (.ofNat 6)] else bif (bif Nat.ble 4 x then Nat.ble x 12 else false) then (bif le0 tab fs (subL (pluL t 1) (kL (.ofNat (hoT (.ofNat x))))) then some [pluL m 1, d, b, bif Nat.beq (hoT (.ofNat x)) 3 then kL 1 else c, kL (.ofNat (hoT (.ofNat x)))] else none) else none
theorem okWt_set {l : List Int32} {m d b c t : Int} {j : Nat} {x : Int32} {r : WtS} {X : Int} (h : okWt l m d b c t) (hj : (j : Int) = m) (hl : j < l.length) (hx : x.toInt = X) (hr : ∀ D B C T : Nat, d = D → b = B → c = C → t = T → wtP (some (D, B, C, T)) X = some r) : okWt (l.set j x) (m + 1) r.1 r.2.1 r.2.2.1 r.2.2.2 := by
  obtain ⟨k, D, B, C, T, e1, e2, e3, e4, e5, e6, e7⟩ := h
  have ej : j = k := by omega
  subst ej
  refine ⟨j + 1, r.1, r.2.1, r.2.2.1, r.2.2.2, by omega, rfl, rfl, rfl, rfl, by rw [List.length_set]; omega, ?_⟩
  rw [take_set_snoc hl, List.map_append, List.map_singleton, wtF_app, e7, hx]
  exact hr D B C T e2 e3 e4 e5
theorem wsW_ok {ρ : Nat → Int} {tab : Tb} {fs : List Ln} {x : Nat} {m d b c t : Ln} {ws : List Ln} (ht : tOk ρ tab) (hf : fOk ρ fs) (h : wsW tab fs x m d b c t = some ws) {l : List Int32} {j : Nat} {y : Int32} (hw : okWt l (ev ρ m) (ev ρ d) (ev ρ b) (ev ρ c) (ev ρ t)) (hj : (j : Int) = ev ρ m) (hl : j < l.length) (hy : y.toInt = x) : PPk 29 [l.set j y] (ws.map (ev ρ)) := by
  have hw0 := hw
  obtain ⟨k, D, B, C, T, e1, e2, e3, e4, e5, e6, e7⟩ := hw0
  have uq : ∀ {D' B' C' T' : Nat}, ev ρ d = D' → ev ρ b = B' → ev ρ c = C' → ev ρ t = T' → D' = D ∧ B' = B ∧ C' = C ∧ T' = T := fun a1 a2 a3 a4 => by omega
  unfold wsW at h
  cases z : Nat.beq x 13 with
  | true =>
    rw [z, cond_true] at h
    cases h
    have x13 := Nat.eq_of_beq_eq_true z
    have q := okWt_set (r := (D + 1, 2 * B + C, 0, 0)) hw hj hl hy (fun D' B' C' T' a1 a2 a3 a4 => by
      obtain ⟨rfl, rfl, rfl, rfl⟩ := uq a1 a2 a3 a4
      simp only [wtP]
      rw [if_pos (by omega)])
    show okWt (l.set j y) (ev ρ (pluL m 1)) (ev ρ (pluL d 1)) (ev ρ (addL (sclL 2 b) c)) (ev ρ (kL 0)) (ev ρ (kL 0))
    rw [ev_plu, ev_plu, ev_add, ev_scl, show ev ρ (kL 0) = 0 from ev_k ρ 0, e2, e3, e4]
    exact q
  | false =>
    rw [z, cond_false] at h
    have x13 : x ≠ 13 := fun e => by rw [e] at z; cases z
    cases z2 : (bif Nat.beq x 2 then true else Nat.beq x 3) with
    | true =>
      rw [z2, cond_true] at h
      cases h
      have x23 : x = 2 ∨ x = 3 := by
        cases q : Nat.beq x 2 with
        | true => exact Or.inl (Nat.eq_of_beq_eq_true q)
        | false => rw [q, cond_false] at z2; exact Or.inr (Nat.eq_of_beq_eq_true z2)
      have q := okWt_set (r := (D, B, C, 6)) hw hj hl hy (fun D' B' C' T' a1 a2 a3 a4 => by
        obtain ⟨rfl, rfl, rfl, rfl⟩ := uq a1 a2 a3 a4
        simp only [wtP]
        rw [if_neg (by omega), if_pos (by omega)])
      show okWt (l.set j y) (ev ρ (pluL m 1)) (ev ρ d) (ev ρ b) (ev ρ c) (ev ρ (kL (.ofNat 6)))
      rw [ev_plu, ev_ki, e2, e3, e4]
      exact q
    | false =>
      rw [z2, cond_false] at h
      have x23 : ¬ (x = 2 ∨ x = 3) := fun e => by rcases e with rfl | rfl <;> cases z2
      cases z4 : (bif Nat.ble 4 x then Nat.ble x 12 else false) with
      | false => rw [z4] at h; cases h
      | true =>
        rw [z4, cond_true] at h
        obtain ⟨g1, g2⟩ := cand z4
        have x4 := Nat.le_of_ble_eq_true g1
        have x12 := Nat.le_of_ble_eq_true g2
        cases z5 : le0 tab fs (subL (pluL t 1) (kL (.ofNat (hoT (.ofNat x))))) with
        | false => rw [z5] at h; cases h
        | true =>
          rw [z5] at h
          cases h
          have ht' := le0_ok ht hf z5
          rw [ev_sub, ev_plu, ev_ki, e5] at ht'
          have hox : hoT (x : Int) = hoT (.ofNat x) := rfl
          have q := okWt_set (r := (D, B, if hoT (x : Int) = 3 then 1 else C, hoT (x : Int))) hw hj hl hy (fun D' B' C' T' a1 a2 a3 a4 => by
            obtain ⟨rfl, rfl, rfl, rfl⟩ := uq a1 a2 a3 a4
            simp only [wtP]
            rw [if_neg (by omega), if_neg (by omega), if_pos (by omega), if_pos (by rw [hox]; omega)])
          show okWt (l.set j y) (ev ρ (pluL m 1)) (ev ρ d) (ev ρ b) (ev ρ (bif Nat.beq (hoT (.ofNat x)) 3 then kL 1 else c)) (ev ρ (kL (.ofNat (hoT (.ofNat x)))))
          rw [ev_plu, ev_ki, e2, e3]
          cases z6 : Nat.beq (hoT (.ofNat x)) 3 with
          | true =>
            rw [cond_true, show ev ρ (kL 1) = ((1 : Nat) : Int) from ev_k ρ 1]
            rw [if_pos (by rw [hox]; exact Nat.eq_of_beq_eq_true z6)] at q
            exact q
          | false =>
            rw [cond_false, e4]
            rw [if_neg (fun e => by rw [hox] at e; rw [e] at z6; cases z6)] at q
            exact q
noncomputable def mWst (P : Nat) : MC := fun _ tb pc st lv A pr nx tab fs => bif Nat.beq pc P then (match tbGet tb pc with
  | some e => bif tSto pc e then (match st with
    | .inl (false, v) :: .inl (false, j) :: .inr (.inl (some q)) :: r => (match pr.findSome? (tlW9 tab fs q j), g4 false 0 e.1 0 0 tab fs A pr st, cst tab v with
      | some (m, d, b, c, t), some (rest, A', pr'), some (.ofNat x) => (match wsW tab fs x m d b c t with
        | some ws => some (pc + e.2.1, rest, lv, A', (29, [q], ws) :: pr', nx, tab, fs)
        | none => none)
      | _, _, _ => none)
    | _ => none) else none
  | none => none) else none
theorem mWst_ok (P : Nat) : McOk PPk (mWst P) := by
  intro ini o nL tb d Q pc st lv A pr nx tab fs pc' st' lv' A' pr' nx' tab' fs' ρ cst0 clv cσ hM hr hp hlv
  unfold mWst at hM
  obtain ⟨-, hM⟩ : _ ∧ _ := by
    cases z : Nat.beq pc P with
    | false => rw [z] at hM; cases hM
    | true => rw [z, cond_true] at hM; exact ⟨trivial, hM⟩
  split at hM
  · rename_i e he
    cases ht : tSto pc e with
    | false => rw [ht] at hM; cases hM
    | true =>
      rw [ht, cond_true] at hM
      split at hM
      · rename_i v j q r _
        split at hM
        · rename_i m d0 b0 c t rest A1 pr1 x hz hg hcx
          split at hM
          · rename_i ws hws
            cases hM
            obtain ⟨i, len, g, a, b, w⟩ := e
            obtain ⟨hi, rfl⟩ := tSto_inv ht
            obtain ⟨p1, m1, f1⟩ := List.exists_of_findSome?_eq_some hz
            have hg' : g4 ini o i a b tab fs A pr (.inl (false, v) :: .inl (false, j) :: .inr (.inl (some q)) :: r) = some (st', A', pr1) := by rw [g4_sto hi]; exact hg
            obtain ⟨t1, t2, t3, t4, t5⟩ := hr ρ agr2.rf
            obtain ⟨cr, σ1, hst, -⟩ := g4_ok (PP := PPk) fpk t1 t2 t3 t5 hg'
            obtain ⟨X, jj, q', k, l, y, e1, e2, e3, e4, e5⟩ := sto_sh hi hst
            have all : ∀ ρ', agr2 nx ρ ρ' → rel2 (vrel ρ') cr st' ∧ rel2 (crel ρ') σ1 A' ∧ (prOk PPk ρ' cσ pr → prOk PPk ρ' σ1 pr1) ∧ σ1.length = cσ.length := fun ρ' ha => by
              obtain ⟨p1, p2, p3, p4, p5⟩ := hr ρ' ha
              obtain ⟨cr', σ2, hst', a1, a2, a3, a4⟩ := g4_ok (PP := PPk) fpk p1 p2 p3 p5 hg'
              rw [hst] at hst'
              cases hst'
              exact ⟨a1, a2, a3, a4⟩
            refine ⟨cr, clv, σ1, ρ, Nat.le_refl _, agr2.rf, fun ρ' ha => ⟨(hr ρ' ha).1, (hr ρ' ha).2.1, (all ρ' ha).1, (hr ρ' ha).2.2.2.1, (all ρ' ha).2.1⟩, fun ρ' ha => List.forall_mem_cons.mpr ⟨?_, (all ρ' ha).2.2.1 (hp ρ' ha)⟩, by rw [(all ρ agr2.rf).2.2.2]; exact hlv, fun cca ccb hgd => ?_⟩
            · obtain ⟨w1, w2, w3, w4, w5⟩ := hr ρ' ha
              rw [e1] at w3
              obtain ⟨v1, d1, y1, h1, hs1⟩ := rel2_cons w3
              cases y1
              obtain ⟨v2, d2, y2, h2, hs2⟩ := rel2_cons hs1
              cases y2
              obtain ⟨v3, d3, y3, h3, -⟩ := rel2_cons hs2
              cases y3
              obtain ⟨x', z1, hx⟩ := vI_inv h1
              cases z1
              obtain ⟨j', z2, hj⟩ := vI_inv h2
              cases z2
              have z3 := vR_inv h3
              cases z3
              have hxv : X.toInt = (x : Int) := by rw [hx]; exact cst_ok w1 hcx
              obtain ⟨rfl, hmj⟩ := tlW9_eq f1
              have hT := tlW9_ok (hp ρ' ha) m1 f1
              have hje := eqL_ok w1 w2 hmj
              have el : arrI (cσ.getD q (.inl (0, []))) = l := by
                rw [List.getD_eq_getElem?_getD, e2]
                rfl
              rw [el] at hT
              have hx13 : x ≤ 13 := by
                unfold wsW at hws
                rcases Nat.lt_or_ge x 14 with hx14 | hx14
                · omega
                · rw [show Nat.beq x 13 = false from by cases z : Nat.beq x 13 with | false => rfl | true => have := Nat.eq_of_beq_eq_true z; omega, cond_false, show (bif Nat.beq x 2 then true else Nat.beq x 3) = false from by
                    cases z : Nat.beq x 2 with
                    | true => have := Nat.eq_of_beq_eq_true z; omega
                    | false => rw [cond_false]; cases z' : Nat.beq x 3 with | false => rfl | true => have := Nat.eq_of_beq_eq_true z'; omega, cond_false] at hws
                  cases z4 : (bif Nat.ble 4 x then Nat.ble x 12 else false) with
                  | false => rw [z4] at hws; cases hws
                  | true => obtain ⟨-, g2⟩ := cand z4; have := Nat.le_of_ble_eq_true g2; omega
              have hy : y = X := e5 (by omega) (by omega)
              subst hy
              have hlt : q < cσ.length := (List.getElem?_eq_some_iff.mp e2).1
              have el1 : arrI (σ1.getD q (.inl (0, []))) = l.set jj.toNatClampNeg y := by
                rw [e4, List.getD_eq_getElem?_getD, List.getElem?_set_self hlt]
                rfl
              show PPk 29 [arrI (σ1.getD q (.inl (0, [])))] (ws.map (ev ρ'))
              rw [el1]
              refine wsW_ok w1 w2 hws hT ?_ (inB_lt e3) hxv
              have h0 : ¬ jj < 0 := fun hlt => inB_in e3 (Or.inl hlt)
              have hc : (jj.toNatClampNeg : Int) = jj.toInt := by
                have h00 : (0 : Int32).toInt = 0 := rfl
                rw [Int32.lt_iff_toInt_lt, h00] at h0
                show ((jj.toInt.toNat : Nat) : Int) = jj.toInt
                omega
              omega
            · exact Good.step (by simp only [nxt, he, hst, Option.map_some]) hgd
          · cases hM
        · cases hM
      · cases hM
  · cases hM
noncomputable def tAcp (_ : Nat) (e : XE) : Bool := match e with
  | (.invokestatic _, _, 4, _, _) => true
  | _ => false
/-- a whole text, told of a row -/
noncomputable def fTxO (tab : Tb) (fs : List Ln) (q : Nat) (e : Ln) (p : PD) : Option (Ln × Ln) := match f10o q p with
  | some ((.ofNat 0, []), n, t) => bif eqL tab fs n e then some (n, t) else none
  | _ => none
noncomputable def mTxC (P : Nat) : MC := fun _ tb pc st lv A pr nx tab fs => bif Nat.beq pc P then (match tbGet tb pc with
  | some e => bif tAcp pc e then (match st with
    | .inl (false, nn) :: .inl (false, dp) :: .inr (.inl (some q1)) :: .inl (false, sp) :: .inr (.inl (some q0)) :: r => (match pr.findSome? (fTxO tab fs q0 nn), g4 false 0 e.1 0 0 tab fs A pr st, cst tab dp, cst tab sp with
      | some (n, t), some (st', A', pr'), some (.ofNat 0), some (.ofNat 0) => some (pc + e.2.1, st', lv, A', (10, [q1], [kL (.ofNat 0), n, t, kL 0, kL 0]) :: pr', nx, tab, fs)
      | _, _, _, _ => none)
    | _ => none) else none
  | none => none) else none
theorem okTr_cpy {f g : List Int32} {n t : Int} {N : Nat} (h : okTr f 0 n t) (hN : (N : Int) = n) (hl : N ≤ f.length) : okTr (cpyL f g 0 0 N) 0 n t := by
  obtain ⟨p, m, hp, rfl, hm, hpl, hx⟩ := h
  have p0 : p = 0 := by omega
  subst p0
  have e : m = N := by omega
  subst e
  have hc : cpyL f g 0 0 m = f.take m ++ g.drop m := by
    unfold cpyL
    rw [List.take_zero, List.nil_append, List.drop_zero, Nat.zero_add]
  refine ⟨0, m, rfl, rfl, hm, ?_, ?_⟩
  · rw [hc, List.length_append, List.length_take]; omega
  · rw [hc, List.drop_zero, List.take_append_of_le_length (by rw [List.length_take]; omega), List.take_take, Nat.min_self]
    rw [List.drop_zero] at hx
    exact hx
theorem mTxC_ok (P : Nat) : McOk PPk (mTxC P) := by
  intro ini o nL tb d Q pc st lv A pr nx tab fs pc' st' lv' A' pr' nx' tab' fs' ρ cst0 clv cσ hM hr hp hlv
  unfold mTxC at hM
  obtain ⟨-, hM⟩ : _ ∧ _ := by
    cases z : Nat.beq pc P with
    | false => rw [z] at hM; cases hM
    | true => rw [z, cond_true] at hM; exact ⟨trivial, hM⟩
  split at hM
  · rename_i e he
    cases ht : tAcp pc e with
    | false => rw [ht] at hM; cases hM
    | true =>
      rw [ht, cond_true] at hM
      split at hM
      · rename_i nn dp q1 sp q0 r _
        split at hM
        · rename_i n t rest A1 pr1 hz hg hdp hsp
          cases hM
          obtain ⟨i, len, g, a, b, w⟩ := e
          obtain ⟨k0, hi, rfl⟩ : ∃ k0, i = .invokestatic k0 ∧ g = 4 := by
            unfold tAcp at ht
            split at ht
            · rename_i heq
              cases heq
              exact ⟨_, rfl, rfl⟩
            · cases ht
          subst hi
          obtain ⟨p1, m1, f1⟩ := List.exists_of_findSome?_eq_some hz
          have hg' : g4 ini o (.invokestatic k0) a b tab fs A pr (.inl (false, nn) :: .inl (false, dp) :: .inr (.inl (some q1)) :: .inl (false, sp) :: .inr (.inl (some q0)) :: r) = some (st', A', pr1) := hg
          obtain ⟨t1, t2, t3, t4, t5⟩ := hr ρ agr2.rf
          obtain ⟨cr, σ1, hst, -⟩ := g4_ok (PP := PPk) fpk t1 t2 t3 t5 hg'
          have all : ∀ ρ', agr2 nx ρ ρ' → rel2 (vrel ρ') cr st' ∧ rel2 (crel ρ') σ1 A' ∧ (prOk PPk ρ' cσ pr → prOk PPk ρ' σ1 pr1) ∧ σ1.length = cσ.length := fun ρ' ha => by
            obtain ⟨p1, p2, p3, p4, p5⟩ := hr ρ' ha
            obtain ⟨cr', σ2, hst', a1, a2, a3, a4⟩ := g4_ok (PP := PPk) fpk p1 p2 p3 p5 hg'
            rw [hst] at hst'
            cases hst'
            exact ⟨a1, a2, a3, a4⟩
          refine ⟨cr, clv, σ1, ρ, Nat.le_refl _, agr2.rf, fun ρ' ha => ⟨(hr ρ' ha).1, (hr ρ' ha).2.1, (all ρ' ha).1, (hr ρ' ha).2.2.2.1, (all ρ' ha).2.1⟩, fun ρ' ha => List.forall_mem_cons.mpr ⟨?_, (all ρ' ha).2.2.1 (hp ρ' ha)⟩, by rw [(all ρ agr2.rf).2.2.2]; exact hlv, fun cca ccb hgd => ?_⟩
          · obtain ⟨w1, w2, w3, w4, w5⟩ := hr ρ' ha
            obtain ⟨v1, d1, y1, h1, hs1⟩ := rel2_cons w3
            obtain ⟨v2, d2, y2, h2, hs2⟩ := rel2_cons hs1
            obtain ⟨v3, d3, y3, h3, hs3⟩ := rel2_cons hs2
            obtain ⟨v4, d4, y4, h4, hs4⟩ := rel2_cons hs3
            obtain ⟨v5, d5, y5, h5, -⟩ := rel2_cons hs4
            subst y1; subst y2; subst y3; subst y4; subst y5
            obtain ⟨xn, z1, hxn⟩ := vI_inv h1
            obtain ⟨xd, z2, hxd⟩ := vI_inv h2
            have z3 := vR_inv h3
            obtain ⟨xs, z4, hxs⟩ := vI_inv h4
            have z5 := vR_inv h5
            subst z1; subst z2; subst z3; subst z4; subst z5
            have hd0 : xd.toInt = 0 := by rw [hxd]; exact cst_ok w1 hdp
            have hs0 : xs.toInt = 0 := by rw [hxs]; exact cst_ok w1 hsp
            simp only [stepE] at hst
            split at hst
            · rename_i k1 f k2 gg hc0 hc1
              split at hst
              · rename_i hcond
                cases hst
                obtain ⟨-, ⟨hz0, hz1, hz2⟩, ⟨hb0, -⟩, -⟩ := hcond
                have hnd : xd.toNatClampNeg = 0 := by show xd.toInt.toNat = 0; omega
                have hns : xs.toNatClampNeg = 0 := by show xs.toInt.toNat = 0; omega
                have hnn : (xn.toNatClampNeg : Int) = xn.toInt := by
                  have h00 : (0 : Int32).toInt = 0 := rfl
                  rw [Int32.le_iff_toInt_le, h00] at hz2
                  show ((xn.toInt.toNat : Nat) : Int) = xn.toInt
                  omega
                unfold fTxO at f1
                split at f1
                · rename_i n' t' h10
                  cases hq : eqL tab fs n' nn with
                  | false => rw [hq] at f1; cases f1
                  | true =>
                    rw [hq] at f1
                    cases f1
                    have hne := eqL_ok w1 w2 hq
                    have hT := f10o_ok (hp ρ' ha) m1 h10
                    have el : arrI (cσ.getD q0 (.inl (0, []))) = f := by
                      rw [List.getD_eq_getElem?_getD, hc0]
                      rfl
                    rw [el, show ev ρ' ((.ofNat 0, []) : Ln) = 0 from ev_k ρ' 0] at hT
                    have hlt : q1 < cσ.length := (List.getElem?_eq_some_iff.mp hc1).1
                    show 10 = 10 ∧ okTr (arrI ((cσ.set q1 _).getD q1 (.inl (0, [])))) (ev ρ' (kL (.ofNat 0))) (ev ρ' n) (ev ρ' t)
                    rw [List.getD_eq_getElem?_getD, List.getElem?_set_self hlt, hnd, hns, show ev ρ' (kL (.ofNat 0)) = 0 from ev_k ρ' 0]
                    exact ⟨rfl, okTr_cpy hT (by omega) (by omega)⟩
                · cases f1
              · cases hst
            · cases hst
          · exact Good.step (by simp only [nxt, he, hst, Option.map_some]) hgd
        · cases hM
      · cases hM
  · cases hM
