/-! ===== macros: a row of 910 copied by a loop ===== -/
noncomputable def walk (tb : List (List (Option XE))) : Nat → List (Nat → XE → Bool) → Bool
  | _, [] => true
  | pc, t :: r => match tbGet tb pc with
    | some e => bif t pc e then walk tb (pc + e.2.1) r else false
    | none => false
theorem walk_cons {tb : List (List (Option XE))} {pc : Nat} {t : Nat → XE → Bool} {r : List (Nat → XE → Bool)} (h : walk tb pc (t :: r) = true) : ∃ e, tbGet tb pc = some e ∧ t pc e = true ∧ walk tb (pc + e.2.1) r = true := by
  unfold walk at h
  split at h
  · rename_i e he
    obtain ⟨h1, h2⟩ := cand h
    exact ⟨e, he, h1, h2⟩
  · cases h
noncomputable def tLd (x : Nat) (_ : Nat) (e : XE) : Bool := match e with
  | (.iload k, _, 0, _, _) => Nat.beq k x
  | (.iload_n k, _, 0, _, _) => Nat.beq k.val x
  | _ => false
noncomputable def tA0 (_ : Nat) (e : XE) : Bool := match e with
  | (.aload_n k, _, 0, _, _) => Nat.beq k.val 0
  | _ => false
noncomputable def tSi (_ : Nat) (e : XE) : Bool := match e with
  | (.sipush n, _, 0, _, _) => decide ((Int16.ofInt n).toInt32 = 910)
  | _ => false
noncomputable def tGe (ex : Nat) (pc : Nat) (e : XE) : Bool := match e with
  | (.if_icmp .ge off, len, 2, _, _) => bif Nat.beq len 3 then decide (jmp pc off = some ex) else false
  | _ => false
noncomputable def tGf (ci b : Nat) (_ : Nat) (e : XE) : Bool := match e with
  | (.getfield _, _, 3, a, b', _) => bif Nat.beq a ci then Nat.beq b' b else false
  | _ => false
noncomputable def tIl (_ : Nat) (e : XE) : Bool := match e with
  | (.iaload, _, 3, _, _) => true
  | _ => false
noncomputable def tIs (_ : Nat) (e : XE) : Bool := match e with
  | (.iastore, _, 4, _, _) => true
  | _ => false
noncomputable def tInc (x : Nat) (_ : Nat) (e : XE) : Bool := match e with
  | (.iinc k n, _, 1, _, _) => bif Nat.beq k x then decide (n = 1) else false
  | _ => false
noncomputable def tGo (H : Nat) (pc : Nat) (e : XE) : Bool := match e with
  | (.goto off, _, 2, _, _) => decide (jmp pc off = some H)
  | _ => false
section MAC
variable {ini : Bool} {o nL : Nat} {tb : List (List (Option XE))} {d : Nat} {Q : Res → Prop} {pc : Nat} {e : XE} {st : List Value} {lv : LV} {σ : SH} {ca cb : Nat}
theorem m_ld {x : Nat} {v : Int32} (hg : tbGet tb pc = some e) (h : tLd x pc e = true) (hx : lvGet lv x = some (.int v)) (k : Good none ini o nL tb d Q (pc + e.2.1, .int v :: st, lv, σ, ca, cb)) : Good none ini o nL tb d Q (pc, st, lv, σ, ca, cb) := by
  refine Good.step ?_ k
  unfold tLd at h
  split at h
  · have e1 := Nat.eq_of_beq_eq_true h
    subst e1
    simp only [nxt, hg, stepA, ldI, hx, Option.map_some]
  · have e1 := Nat.eq_of_beq_eq_true h
    subst e1
    simp only [nxt, hg, stepA, ldI, hx, Option.map_some]
  · cases h
theorem m_a0 {q : Nat} (hg : tbGet tb pc = some e) (h : tA0 pc e = true) (hx : lvGet lv 0 = some (.ref q)) (k : Good none ini o nL tb d Q (pc + e.2.1, .ref q :: st, lv, σ, ca, cb)) : Good none ini o nL tb d Q (pc, st, lv, σ, ca, cb) := by
  refine Good.step ?_ k
  unfold tA0 at h
  split at h
  · rename_i k0 _ _ _
    have e1 : (k0 : Nat) = 0 := Nat.eq_of_beq_eq_true h
    simp only [nxt, hg, stepA, ldA, e1, hx, Option.map_some]
  · cases h
theorem m_si (hg : tbGet tb pc = some e) (h : tSi pc e = true) (k : Good none ini o nL tb d Q (pc + e.2.1, .int 910 :: st, lv, σ, ca, cb)) : Good none ini o nL tb d Q (pc, st, lv, σ, ca, cb) := by
  refine Good.step ?_ k
  unfold tSi at h
  split at h
  · have e1 := of_decide_eq_true h
    simp only [nxt, hg, stepA, e1, Option.map_some]
  · cases h
theorem m_ge {ex : Nat} {x y : Int32} (hg : tbGet tb pc = some e) (h : tGe ex pc e = true) (k : Good none ini o nL tb d Q (if y ≤ x then ex else pc + e.2.1, st, lv, σ, ca, cb)) : Good none ini o nL tb d Q (pc, .int y :: .int x :: st, lv, σ, ca, cb) := by
  refine Good.step ?_ k
  unfold tGe at h
  split at h
  · obtain ⟨e0, h⟩ := cand h
    have e1 := of_decide_eq_true h
    have e2 := Nat.eq_of_beq_eq_true e0
    subst e2
    simp only [nxt, hg, stepC, jIf, e1, cnd, decide_eq_true_eq, Option.map_some]
  · cases h
theorem m_gf {ci b q : Nat} {fl : List Value} {v : Value} (hg : tbGet tb pc = some e) (h : tGf ci b pc e = true) (h1 : σ[q]? = some (.inl (ci, fl))) (h2 : fl[b]? = some v) (k : Good none ini o nL tb d Q (pc + e.2.1, v :: st, lv, σ, ca, cb)) : Good none ini o nL tb d Q (pc, .ref q :: st, lv, σ, ca, cb) := by
  refine Good.step ?_ k
  unfold tGf at h
  split at h
  · obtain ⟨e0, e1⟩ := cand h
    have e2 := Nat.eq_of_beq_eq_true e0
    have e3 := Nat.eq_of_beq_eq_true e1
    subst e2; subst e3
    simp only [nxt, hg, stepD, h1, h2, if_pos, Option.map_some]
  · cases h
theorem m_il {q : Nat} {l : List Int32} {j : Int32} (hg : tbGet tb pc = some e) (h : tIl pc e = true) (h1 : σ[q]? = some (.inr (0, .inl l))) (h2 : inB j l.length = true) (k : Good none ini o nL tb d Q (pc + e.2.1, .int (l.getD j.toNatClampNeg 0) :: st, lv, σ, ca, cb)) : Good none ini o nL tb d Q (pc, .int j :: .ref q :: st, lv, σ, ca, cb) := by
  refine Good.step ?_ k
  unfold tIl at h
  split at h
  · simp only [nxt, hg, stepD, aI, h1, h2, and_self, if_pos, Option.map_some]
  · cases h
theorem m_is {q : Nat} {l : List Int32} {j x : Int32} (hg : tbGet tb pc = some e) (h : tIs pc e = true) (h1 : σ[q]? = some (.inr (0, .inl l))) (h2 : inB j l.length = true) (k : Good none ini o nL tb d Q (pc + e.2.1, st, lv, σ.set q (.inr (0, .inl (l.set j.toNatClampNeg x))), ca, cb)) : Good none ini o nL tb d Q (pc, .int x :: .int j :: .ref q :: st, lv, σ, ca, cb) := by
  refine Good.step ?_ k
  unfold tIs at h
  split at h
  · have e1 : vp_nar .int x = x := rfl
    simp only [nxt, hg, stepE, sI, h1, h2, e1, and_self, if_pos, Option.map_some]
  · cases h
theorem m_inc {x : Nat} {v : Int32} (hg : tbGet tb pc = some e) (h : tInc x pc e = true) (hx : lvGet lv x = some (.int v)) (hl : x < nL) (k : Good none ini o nL tb d Q (pc + e.2.1, st, lvSet1 lv x (.int (v + 1)), σ, ca, cb)) : Good none ini o nL tb d Q (pc, st, lv, σ, ca, cb) := by
  refine Good.step ?_ k
  unfold tInc at h
  split at h
  · obtain ⟨e0, e1⟩ := cand h
    have e2 := Nat.eq_of_beq_eq_true e0
    have e3 := of_decide_eq_true e1
    subst e2; subst e3
    simp only [nxt, hg, stepB, hx, hl, if_pos, Option.map_some]
    rfl
  · cases h
theorem m_go {H : Nat} (hg : tbGet tb pc = some e) (h : tGo H pc e = true) (k : Good none ini o nL tb d Q (H, st, lv, σ, ca, cb)) : Good none ini o nL tb d Q (pc, st, lv, σ, ca, cb) := by
  refine Good.step ?_ k
  unfold tGo at h
  split at h
  · have e1 := of_decide_eq_true h
    simp only [nxt, hg, stepC, e1, Option.map_some]
  · cases h
end MAC
noncomputable def copyTs (H x ci dF sF ex : Nat) : List (Nat → XE → Bool) := [tLd x, tSi, tGe ex, tA0, tGf ci dF, tLd x, tA0, tGf ci sF, tLd x, tIl, tIs, tInc x, tGo H]
theorem lvGet_s1 {lv : LV} {x : Nat} {v : Value} : lvGet (lvSet1 lv x v) x = some v := by
  unfold lvSet1
  rw [lvGet_cons, if_pos rfl]
theorem lvGet_s1_ne {lv : LV} {x j : Nat} {v w : Value} (h : lvGet lv j = some w) (hj : x ≠ j) (hc : w.category ≠ 2 ∨ j + 1 ≠ x) : lvGet (lvSet1 lv x v) j = some w := by
  unfold lvSet1
  rw [lvGet_cons, if_neg hj]
  unfold lvGet at h ⊢
  induction lv with
  | nil => cases h
  | cons p r ih =>
    rw [List.find?_cons] at h
    by_cases hp : p.1 == j
    · simp only [hp, Option.map_some, Option.some.injEq] at h
      have hpj : p.1 = j := by simpa using hp
      have hk : (!(p.1 == x) && !(p.1 + 1 == x && p.2.category == 2)) = true := by
        rw [Bool.and_eq_true]
        refine ⟨by simp only [Bool.not_eq_true', beq_eq_false_iff_ne]; omega, ?_⟩
        rw [Bool.not_eq_true', Bool.and_eq_false_iff]
        rcases hc with hc | hc
        · right; rw [beq_eq_false_iff_ne, h]; exact hc
        · left; rw [beq_eq_false_iff_ne]; omega
      rw [List.filter_cons_of_pos (p := fun q : Nat × Value => !(q.1 == x) && !(q.1 + 1 == x && q.2.category == 2)) hk, List.find?_cons]
      simp only [hp, Option.map_some, h]
    · simp only [hp] at h
      by_cases hk : (!(p.1 == x) && !(p.1 + 1 == x && p.2.category == 2)) = true
      · rw [List.filter_cons_of_pos (p := fun q : Nat × Value => !(q.1 == x) && !(q.1 + 1 == x && q.2.category == 2)) hk, List.find?_cons]
        simp only [hp]
        exact ih h
      · rw [List.filter_cons_of_neg (p := fun q : Nat × Value => !(q.1 == x) && !(q.1 + 1 == x && q.2.category == 2)) hk]
        exact ih h
theorem set_set {σ : SH} {q : Nat} {c c' : SC} : (σ.set q c).set q c' = σ.set q c' := List.set_set ..
theorem getD_lt {l : List Int32} {i : Nat} (h : i < l.length) : l.getD i 0 = l[i] := by
  rw [List.getD_eq_getElem?_getD, List.getElem?_eq_getElem h]
  rfl
/-- the loop from place k on -/
theorem copy_loop {ini : Bool} {o nL : Nat} {tb : List (List (Option XE))} {d : Nat} {Q : Res → Prop} {H x ci dF sF ex q0 qd qs : Nat} {fl : List Value} {f : List Int32} {st : List Value} (hw : walk tb H (copyTs H x ci dF sF ex) = true) (hx0 : x ≠ 0) (hxl : x < nL) (hne : qd ≠ qs) (hn0 : qd ≠ q0) (hf : f.length = 910) (hd : fl[dF]? = some (.ref qd)) (hs : fl[sF]? = some (.ref qs)) : ∀ (n k : Nat) (v : Int32) (g : List Int32) (lv : LV) (σ : SH), n + k = 910 → v.toInt = k → g.length = 910 → lvGet lv x = some (.int v) → lvGet lv 0 = some (.ref q0) → σ[q0]? = some (.inl (ci, fl)) → σ[qs]? = some (.inr (0, .inl f)) → σ[qd]? = some (.inr (0, .inl g)) → (∀ i, i < k → g[i]? = f[i]?) →
    ∃ lvE : LV, (∀ j w, j ≠ x → lvGet lv j = some w → (w.category ≠ 2 ∨ j + 1 ≠ x) → lvGet lvE j = some w) ∧ lvGet lvE x = some (.int 910) ∧ (∀ m, lvOk m lv → lvOk m lvE) ∧ ∀ ca cb, Good none ini o nL tb d Q (ex, st, lvE, σ.set qd (.inr (0, .inl f)), ca, cb) → Good none ini o nL tb d Q (H, st, lv, σ, ca, cb) := by
  intro n
  obtain ⟨e0, a0, b0, hw⟩ := walk_cons hw
  obtain ⟨e1, a1, b1, hw⟩ := walk_cons hw
  obtain ⟨e2, a2, b2, hw⟩ := walk_cons hw
  obtain ⟨e3, a3, b3, hw⟩ := walk_cons hw
  obtain ⟨e4, a4, b4, hw⟩ := walk_cons hw
  obtain ⟨e5, a5, b5, hw⟩ := walk_cons hw
  obtain ⟨e6, a6, b6, hw⟩ := walk_cons hw
  obtain ⟨e7, a7, b7, hw⟩ := walk_cons hw
  obtain ⟨e8, a8, b8, hw⟩ := walk_cons hw
  obtain ⟨e9, a9, b9, hw⟩ := walk_cons hw
  obtain ⟨e10, a10, b10, hw⟩ := walk_cons hw
  obtain ⟨e11, a11, b11, hw⟩ := walk_cons hw
  obtain ⟨e12, a12, b12, -⟩ := walk_cons hw
  have h910 : (910 : Int32).toInt = 910 := by decide
  induction n with
  | zero =>
    intro k v g lv σ hnk hv hg hx h0 hq0 hqs hqd hpre
    have hk : k = 910 := by omega
    subst hk
    have hv' : v = 910 := Int32.toInt_inj.mp (by rw [hv, h910]; rfl)
    have hgf : g = f := List.ext_getElem? fun i => by
      rcases Nat.lt_or_ge i 910 with hi | hi
      · exact hpre i hi
      · rw [List.getElem?_eq_none (by omega), List.getElem?_eq_none (by omega)]
    have hset : σ.set qd (.inr (0, .inl f)) = σ := by
      refine List.ext_getElem? fun j => ?_
      by_cases hj : qd = j
      · subst hj
        rw [List.getElem?_set_self (List.getElem?_eq_some_iff.mp hqd).1, hqd, hgf]
      · rw [List.getElem?_set_ne hj]
    refine ⟨lv, fun j w _ h _ => h, by rw [hx, hv'], fun m h => h, fun ca cb kk => m_ld a0 b0 hx (m_si a1 b1 (m_ge a2 b2 ?_))⟩
    rw [if_pos (by rw [hv']; exact Int32.le_refl _)]
    rw [hset] at kk
    exact kk
  | succ n ih =>
    intro k v g lv σ hnk hv hg hx h0 hq0 hqs hqd hpre
    have hcl : v.toNatClampNeg = k := by
      have : v.toNatClampNeg = v.toInt.toNat := rfl
      rw [this, hv]
      exact Int.toNat_natCast k
    have hin : ∀ l : List Int32, l.length = 910 → inB v l.length = true := fun l hl => by
      unfold inB
      rw [Bool.and_eq_true, decide_eq_true_eq, decide_eq_true_eq, hl, hcl, Int32.le_iff_toInt_le, hv]
      exact ⟨Int.natCast_nonneg k, by omega⟩
    have hv1 : (v + 1).toInt = ((k + 1 : Nat) : Int) := by
      rw [Int32.toInt_add, hv, show (1 : Int32).toInt = 1 by decide, Int.bmod_eq_of_le (by omega) (by omega)]
      rfl
    have hlt : qd < σ.length := (List.getElem?_eq_some_iff.mp hqd).1
    obtain ⟨lvE, i1, i2, i3, i4⟩ := ih (k + 1) (v + 1) (g.set k (f.getD k 0)) (lvSet1 lv x (.int (v + 1))) (σ.set qd (.inr (0, .inl (g.set k (f.getD k 0))))) (by omega) hv1 (by rw [List.length_set]; exact hg) lvGet_s1 (lvGet_s1_ne h0 hx0 (Or.inl (show (1 : Nat) ≠ 2 by decide))) (by rw [List.getElem?_set_ne hn0]; exact hq0) (by rw [List.getElem?_set_ne hne]; exact hqs) (by rw [List.getElem?_set_self hlt]) (fun i hi => by
      by_cases hik : k = i
      · subst hik
        rw [List.getElem?_set_self (by omega), getD_lt (by omega), List.getElem?_eq_getElem (by omega)]
      · rw [List.getElem?_set_ne hik]
        exact hpre i (by omega))
    refine ⟨lvE, fun j w hj hw hc => i1 j w hj (lvGet_s1_ne hw (fun e => hj e.symm) hc) hc, i2, fun m hm => i3 m (lvOk_set1 hm rfl), fun ca cb kk => m_ld a0 b0 hx (m_si a1 b1 (m_ge a2 b2 ?_))⟩
    rw [if_neg (by rw [Int32.le_iff_toInt_le, hv, h910]; omega)]
    refine m_a0 a3 b3 h0 (m_gf a4 b4 hq0 hd (m_ld a5 b5 hx (m_a0 a6 b6 h0 (m_gf a7 b7 hq0 hs (m_ld a8 b8 hx (m_il a9 b9 hqs (hin f hf) (m_is a10 b10 hqd (hin g hg) (m_inc a11 b11 hx hxl (m_go a12 b12 ?_)))))))))
    rw [hcl]
    refine i4 ca cb ?_
    rw [set_set]
    exact kk
noncomputable def prCp (s d : Nat) (pr : List PD) : List PD := (pr.filter (fun p => decide (p.2.1 = [s]))).map (fun p => (p.1, [d], p.2.2))
/-- the loop at H: row in field sF to the row in field dF -/
noncomputable def mCopy (H x ci dF sF ex : Nat) : MC := fun nL tb pc st lv A pr nx tab fs => bif (bif Nat.beq pc H then (bif Nat.blt 0 x then Nat.blt x nL else false) else false) then (bif walk tb H (copyTs H x ci dF sF ex) then (match alGet x lv, alGet 0 lv with
  | some (.inl (false, e)), some (.inr (.inl (some o))) => (match cst tab e, A[o]? with
    | some (.ofNat 0), some (.inl (c', as)) => (match refAt as dF, refAt as sF with
      | some d, some s => (match A[d]?, A[s]? with
        | some (.inr (0, .inl gs)), some (.inr (0, .inl ss)) => bif (bif Nat.beq c' ci then (bif Nat.beq d s then false else (bif Nat.beq (sgLen gs) 910 then Nat.beq (sgLen ss) 910 else false)) else false) then some (ex, st, (x, .inl (false, kL (.ofNat 910))) :: alDel false x lv, A.set d (.inr (0, .inl ss)), prCp s d pr ++ prDel d pr, nx, tab, fs) else none
        | _, _ => none)
      | _, _ => none)
    | _, _ => none)
  | _, _ => none) else none) else none
theorem refAt_ok {ρ : Nat → Int} {fl : List Value} {as : List AV} (h : rel2 (vrel ρ) fl as) {f q : Nat} (hr : refAt as f = some q) : fl[f]? = some (.ref q) := by
  unfold refAt at hr
  split at hr
  · rename_i q' hq
    cases hr
    obtain ⟨v, v1, v2⟩ := rel2_get h hq
    rw [v1, vR_inv v2]
  · cases hr
theorem alDel_sub {two : Bool} {k : Nat} {al : AL} : ∀ q ∈ alDel two k al, q ∈ al ∧ q.1 ≠ k ∧ (q.1 + 1 = k → catA q.2 ≠ 2) := by
  induction al with
  | nil => intro q hq; cases hq
  | cons p r ih =>
    intro q hq
    obtain ⟨j, a⟩ := p
    have recu : q ∈ alDel two k r → q ∈ (j, a) :: r ∧ q.1 ≠ k ∧ (q.1 + 1 = k → catA q.2 ≠ 2) := fun h => ⟨List.mem_cons_of_mem _ (ih q h).1, (ih q h).2⟩
    rw [alDel_def] at hq
    try dsimp only at hq
    cases z1 : Nat.beq j k with
    | true => rw [z1] at hq; exact recu hq
    | false =>
      rw [z1] at hq
      simp only [cond_false] at hq
      cases z2 : (bif two then Nat.beq j (Nat.succ k) else false) with
      | true => rw [z2] at hq; exact recu hq
      | false =>
        rw [z2] at hq
        simp only [cond_false] at hq
        cases z3 : (bif Nat.beq (Nat.succ j) k then Nat.beq (catA a) 2 else false) with
        | true => rw [z3] at hq; exact recu hq
        | false =>
          rw [z3] at hq
          rcases List.mem_cons.mp hq with rfl | hq
          · refine ⟨List.mem_cons_self, fun e => ?_, fun e e2 => ?_⟩
            · try dsimp only at e
              rw [e, Nat.beq_refl] at z1
              cases z1
            · try dsimp only at e e2
              rw [← e, Nat.beq_refl, e2] at z3
              cases z3
          · exact recu hq
theorem mCopy_ok (H x ci dF sF ex : Nat) : McOk PPk (mCopy H x ci dF sF ex) := by
  intro ini o nL tb d Q pc st lv A pr nx tab fs pc' st' lv' A' pr' nx' tab' fs' ρ cst0 clv cσ h hr hp hlv
  unfold mCopy at h
  obtain ⟨g0, h⟩ : (bif Nat.beq pc H then (bif Nat.blt 0 x then Nat.blt x nL else false) else false) = true ∧ _ := by
    cases z : (bif Nat.beq pc H then (bif Nat.blt 0 x then Nat.blt x nL else false) else false) with
    | false => rw [z] at h; cases h
    | true => rw [z] at h; exact ⟨rfl, h⟩
  obtain ⟨g1, g2⟩ := cand g0
  obtain ⟨g3, g4⟩ := cand g2
  have epc := Nat.eq_of_beq_eq_true g1
  subst epc
  simp only [cond_true] at h
  cases hw : walk tb pc (copyTs pc x ci dF sF ex) with
  | false => rw [hw] at h; cases h
  | true =>
    rw [hw] at h
    simp only [cond_true] at h
    split at h
    · rename_i e q0 hx h0
      split at h
      · rename_i c' as hc hA0
        split at h
        · rename_i qd qs hd hs
          split at h
          · rename_i gs ss hAd hAs
            cases z : (bif Nat.beq c' ci then (bif Nat.beq qd qs then false else (bif Nat.beq (sgLen gs) 910 then Nat.beq (sgLen ss) 910 else false)) else false) with
            | false => rw [z] at h; cases h
            | true =>
              rw [z] at h
              cases h
              obtain ⟨z1, zz⟩ := cand z
              clear z
              have ec := Nat.eq_of_beq_eq_true z1
              subst ec
              have hzz : Nat.beq qd qs = false ∧ (bif Nat.beq (sgLen gs) 910 then Nat.beq (sgLen ss) 910 else false) = true := by
                cases y : Nat.beq qd qs with
                | true => rw [y, cond_true] at zz; cases zz
                | false => rw [y, cond_false] at zz; exact ⟨rfl, zz⟩
              have hne : qd ≠ qs := fun e => by
                have := hzz.1
                rw [e, Nat.beq_refl] at this
                cases this
              have z' := hzz.2
              obtain ⟨z2, z3⟩ := cand z'
              have l1 := Nat.eq_of_beq_eq_true z2
              have l2 := Nat.eq_of_beq_eq_true z3
              obtain ⟨t1, t2, t3, t4, t5⟩ := hr ρ agr2.rf
              obtain ⟨vx, vx1, vx2⟩ := lvR_get t4 hx
              obtain ⟨v, ev1, ev2⟩ := vI_inv vx2
              subst ev1
              obtain ⟨v0, v01, v02⟩ := lvR_get t4 h0
              have := vR_inv v02
              subst this
              obtain ⟨co, co1, co2⟩ := rel2_get t5 hA0
              obtain ⟨fl, co3, co4⟩ := crO_inv co2
              subst co3
              obtain ⟨cd, cd1, cd2⟩ := rel2_get t5 hAd
              obtain ⟨g, cd3, cd4⟩ := crI_inv (by decide) cd2
              subst cd3
              obtain ⟨cs, cs1, cs2⟩ := rel2_get t5 hAs
              obtain ⟨f, cs3, cs4⟩ := crI_inv (by decide) cs2
              subst cs3
              have hf : f.length = 910 := by rw [srel_len cs4]; exact l2
              have hg : g.length = 910 := by rw [srel_len cd4]; exact l1
              have hv : v.toInt = (0 : Nat) := by
                rw [ev2, cst_ok t1 hc]
                rfl
              have hn0 : qd ≠ q0 := fun e => by
                subst e
                rw [hAd] at hA0
                cases hA0
              have hdl : qd < cσ.length := (List.getElem?_eq_some_iff.mp cd1).1
              -- the locals behind the loop: any that keep the others
              have hgoal : ∀ lvE : LV, (∀ j w, j ≠ x → lvGet clv j = some w → (w.category ≠ 2 ∨ j + 1 ≠ x) → lvGet lvE j = some w) → lvGet lvE x = some (.int 910) → ∀ ρ', agr2 nx ρ ρ' → lvR ρ' lvE ((x, .inl (false, kL (.ofNat 910))) :: alDel false x lv) := fun lvE k1 k2 ρ' ha => by
                intro q hq
                rcases List.mem_cons.mp hq with rfl | hq
                · exact ⟨_, k2, 910, rfl, by rw [ev_k]; rfl⟩
                · obtain ⟨m1, m2, m3⟩ := alDel_sub q hq
                  obtain ⟨w, w1, w2⟩ := (hr ρ' ha).2.2.2.1 q m1
                  refine ⟨w, k1 q.1 w m2 w1 ?_, w2⟩
                  by_cases hj : q.1 + 1 = x
                  · left
                    rw [catA_ok w2]
                    exact m3 hj
                  · exact Or.inr hj
              have hprs : ∀ ρ', agr2 nx ρ ρ' → prOk PPk ρ' (cσ.set qd (.inr (0, .inl f))) (prCp qs qd pr ++ prDel qd pr) := fun ρ' ha p hq => by
                rcases List.mem_append.mp hq with hq | hq
                · obtain ⟨p0, p1, rfl⟩ := List.mem_map.mp hq
                  obtain ⟨p2, p3⟩ := List.mem_filter.mp p1
                  have p4 := of_decide_eq_true p3
                  have p5 := hp ρ' ha p0 p2
                  rw [p4] at p5
                  show PPk p0.1 [arrI ((cσ.set qd (.inr (0, .inl f))).getD qd (.inl (0, [])))] _
                  rw [List.getD_eq_getElem?_getD, List.getElem?_set_self hdl]
                  have p6 : [qs].map (fun i => arrI (cσ.getD i (.inl (0, [])))) = [f] := by
                    show [arrI (cσ.getD qs (.inl (0, [])))] = [f]
                    rw [List.getD_eq_getElem?_getD, cs1]
                    rfl
                  rw [p6] at p5
                  exact p5
                · exact prOk_set (hp ρ' ha) qd _ p hq
              have hA' : ∀ ρ', agr2 nx ρ ρ' → rel2 (crel ρ') (cσ.set qd (.inr (0, .inl f))) (A.set qd (.inr (0, .inl ss))) := fun ρ' ha => by
                obtain ⟨w1, w2, w3, w4, w5⟩ := hr ρ' ha
                obtain ⟨cs', x1, x2⟩ := rel2_get w5 hAs
                rw [cs1] at x1
                cases x1
                obtain ⟨f', y1, y2⟩ := crI_inv (by decide) x2
                cases y1
                exact rel2_set w5 (arel_mk (by decide) y2)
              -- what the loop leaves
              obtain ⟨lvE, k1, k2, k3, k4⟩ := copy_loop (ini := ini) (o := o) (d := d) (Q := Q) (st := cst0) hw (by have := blt_iff.mp g3; omega) (blt_iff.mp g4) hne hn0 hf (refAt_ok co4 hd) (refAt_ok co4 hs) 910 0 v g clv cσ rfl hv hg vx1 v01 co1 cs1 cd1 (fun i hi => absurd hi (Nat.not_lt_zero _))
              refine ⟨cst0, lvE, _, ρ, Nat.le_refl _, agr2.rf, fun ρ' ha => ⟨(hr ρ' ha).1, (hr ρ' ha).2.1, (hr ρ' ha).2.2.1, hgoal lvE k1 k2 ρ' ha, hA' ρ' ha⟩, hprs, ?_, fun cca ccb hk => k4 cca ccb hk⟩
              rw [List.length_set]
              exact k3 _ hlv
          · cases h
        · cases h
      · cases h
    · cases h
/-- the first macro that speaks -/
noncomputable def mOr (f g : MC) : MC := fun nL tb pc st lv A pr nx tab fs => match f nL tb pc st lv A pr nx tab fs with
  | some q => some q
  | none => g nL tb pc st lv A pr nx tab fs
theorem mOr_ok {PP : Nat → List (List Int32) → List Int → Prop} {f g : MC} (hf : McOk PP f) (hg : McOk PP g) : McOk PP (mOr f g) := by
  intro ini o nL tb d Q pc st lv A pr nx tab fs pc' st' lv' A' pr' nx' tab' fs' ρ cst clv cσ h hr hp hl
  unfold mOr at h
  split at h
  · rename_i q h1
    cases h
    exact hf ini o nL tb d Q pc st lv A pr nx tab fs pc' st' lv' A' pr' nx' tab' fs' ρ cst clv cσ h1 hr hp hl
  · exact hg ini o nL tb d Q pc st lv A pr nx tab fs pc' st' lv' A' pr' nx' tab' fs' ρ cst clv cσ h hr hp hl
