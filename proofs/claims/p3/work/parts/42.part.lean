/-! ===== macros: 910 places copied from one row into another, at places told ===== -/
noncomputable def sgSplit : List Sg → Nat → Option (List Sg × List Sg)
  | [], n => bif Nat.beq n 0 then some ([], []) else none
  | .inl e :: r, n => bif Nat.beq n 0 then some ([], .inl e :: r) else (sgSplit r (Nat.sub n 1)).map (fun q => (.inl e :: q.1, q.2))
  | .inr (m, lo, hi) :: r, n => bif Nat.ble m n then (sgSplit r (Nat.sub n m)).map (fun q => (.inr (m, lo, hi) :: q.1, q.2)) else some ([.inr (n, lo, hi)], .inr (Nat.sub m n, lo, hi) :: r)
theorem srel_app {ρ : Nat → Int} {a b : List Sg} : ∀ {l1 l2 : List Int32}, srel ρ a l1 → srel ρ b l2 → srel ρ (a ++ b) (l1 ++ l2) := by
  induction a with
  | nil =>
    intro l1 l2 h1 h2
    have e : l1 = [] := h1
    subst e
    exact h2
  | cons q r ih =>
    intro l1 l2 h1 h2
    match q, h1 with
    | .inl e, ⟨x, l', e1, e2, h3⟩ =>
      subst e1
      exact ⟨x, l' ++ l2, rfl, e2, ih h3 h2⟩
    | .inr (m, lo, hi), ⟨k1, k2, e1, e2, e3, h3⟩ =>
      subst e1
      exact ⟨k1, k2 ++ l2, by rw [List.append_assoc], e2, e3, ih h3 h2⟩
theorem sgSplit_ok {ρ : Nat → Int} : ∀ {s : List Sg} {n : Nat} {a b : List Sg} {l : List Int32}, srel ρ s l → sgSplit s n = some (a, b) → srel ρ a (l.take n) ∧ srel ρ b (l.drop n) := by
  intro s
  induction s with
  | nil =>
    intro n a b l h ho
    have e : l = [] := h
    subst e
    unfold sgSplit at ho
    cases z : Nat.beq n 0 with
    | false => rw [z] at ho; cases ho
    | true =>
      rw [z] at ho
      cases ho
      rw [List.take_nil, List.drop_nil]
      exact ⟨rfl, rfl⟩
  | cons q r ih =>
    intro n a b l h ho
    match q, h with
    | .inl e, ⟨x, l', e1, e2, h3⟩ =>
      subst e1
      unfold sgSplit at ho
      cases z : Nat.beq n 0 with
      | true =>
        rw [z] at ho
        cases ho
        have e := Nat.eq_of_beq_eq_true z
        subst e
        exact ⟨rfl, x, l', rfl, e2, h3⟩
      | false =>
        rw [z] at ho
        cases hs : sgSplit r (Nat.sub n 1) with
        | none => rw [hs] at ho; cases ho
        | some q2 =>
          rw [hs] at ho
          cases ho
          obtain ⟨k1, k2⟩ := ih h3 hs
          obtain ⟨n', rfl⟩ : ∃ n', n = n' + 1 := ⟨n - 1, by
            have : n ≠ 0 := fun e => (by rw [e] at z; cases z)
            omega⟩
          exact ⟨⟨x, l'.take n', by rw [List.take_succ_cons], e2, k1⟩, by rw [List.drop_succ_cons]; exact k2⟩
    | .inr (m, lo, hi), ⟨l1, l2, e1, e2, e3, h3⟩ =>
      subst e1
      unfold sgSplit at ho
      cases z : Nat.ble m n with
      | true =>
        rw [z] at ho
        have hz := Nat.le_of_ble_eq_true z
        cases hs : sgSplit r (Nat.sub n m) with
        | none => rw [hs] at ho; cases ho
        | some q2 =>
          rw [hs] at ho
          cases ho
          obtain ⟨k1, k2⟩ := ih h3 hs
          have hk : Nat.sub n m = n - l1.length := by rw [e2]; rfl
          rw [hk] at k1 k2
          refine ⟨⟨l1, l2.take (n - l1.length), ?_, e2, e3, k1⟩, ?_⟩
          · rw [List.take_append, List.take_of_length_le (by omega)]
          · rw [List.drop_append, List.drop_of_length_le (by omega), List.nil_append]
            exact k2
      | false =>
        rw [z] at ho
        cases ho
        have hz : n < m := by
          have : ¬ m ≤ n := fun q => (by rw [Nat.ble_eq_true_of_le q] at z; cases z)
          omega
        rw [List.take_append_of_le_length (by omega), List.drop_append_of_le_length (by omega)]
        refine ⟨⟨l1.take n, [], by rw [List.append_nil], by rw [List.length_take]; omega, fun x hx => e3 x (List.mem_of_mem_take hx), rfl⟩, l1.drop n, l2, rfl, ?_, fun x hx => e3 x (List.mem_of_mem_drop hx), h3⟩
        rw [List.length_drop, e2]
        rfl
noncomputable def tMul (_ : Nat) (e : XE) : Bool := match e with
  | (.imul, _, 0, _, _) => true
  | _ => false
noncomputable def tAdd (_ : Nat) (e : XE) : Bool := match e with
  | (.iadd, _, 0, _, _) => true
  | _ => false
/-- the place: the counter; or 910 times a local, and the counter -/
noncomputable def idxTs (x : Nat) : Option Nat → List (Nat → XE → Bool)
  | none => [tLd x]
  | some h => [tSi, tLd h, tMul, tLd x, tAdd]
noncomputable def offIs (lv : LV) (hh : Option Nat) (off : Nat) : Prop := match hh with
  | none => off = 0
  | some h => ∃ w : Int32, lvGet lv h = some (.int w) ∧ w.toInt * 910 = off
section MAC2
variable {ini : Bool} {o nL : Nat} {tb : List (List (Option XE))} {d : Nat} {Q : Res → Prop}
theorem m_mul {pc : Nat} {e : XE} {st : List Value} {lv : LV} {σ : SH} {ca cb : Nat} {x y : Int32} (hg : tbGet tb pc = some e) (h : tMul pc e = true) (k : Good none ini o nL tb d Q (pc + e.2.1, .int (x * y) :: st, lv, σ, ca, cb)) : Good none ini o nL tb d Q (pc, .int y :: .int x :: st, lv, σ, ca, cb) := by
  refine Good.step ?_ k
  unfold tMul at h
  split at h
  · simp only [nxt, hg, stepA, bi, Option.map_some]
  · cases h
theorem m_add {pc : Nat} {e : XE} {st : List Value} {lv : LV} {σ : SH} {ca cb : Nat} {x y : Int32} (hg : tbGet tb pc = some e) (h : tAdd pc e = true) (k : Good none ini o nL tb d Q (pc + e.2.1, .int (x + y) :: st, lv, σ, ca, cb)) : Good none ini o nL tb d Q (pc, .int y :: .int x :: st, lv, σ, ca, cb) := by
  refine Good.step ?_ k
  unfold tAdd at h
  split at h
  · simp only [nxt, hg, stepA, bi, Option.map_some]
  · cases h
theorem m_idx {x pc : Nat} {hh : Option Nat} {r : List (Nat → XE → Bool)} (hw : walk tb pc (idxTs x hh ++ r) = true) : ∃ pc', walk tb pc' r = true ∧ ∀ (st : List Value) (lv : LV) (σ : SH) (ca cb : Nat) (v : Int32) (off k : Nat), lvGet lv x = some (.int v) → v.toInt = k → k < 910 → off < 100000 → offIs lv hh off → ∃ j : Int32, j.toInt = (off + k : Nat) ∧ (Good none ini o nL tb d Q (pc', .int j :: st, lv, σ, ca, cb) → Good none ini o nL tb d Q (pc, st, lv, σ, ca, cb)) := by
  cases hh with
  | none =>
    obtain ⟨e0, a0, b0, hw⟩ := walk_cons hw
    refine ⟨_, hw, fun st lv σ ca cb v off k hx hv hk ho1 ho => ⟨v, ?_, fun kk => m_ld a0 b0 hx kk⟩⟩
    have : off = 0 := ho
    rw [hv, this, Nat.zero_add]
  | some h =>
    obtain ⟨e0, a0, b0, hw⟩ := walk_cons hw
    obtain ⟨e1, a1, b1, hw⟩ := walk_cons hw
    obtain ⟨e2, a2, b2, hw⟩ := walk_cons hw
    obtain ⟨e3, a3, b3, hw⟩ := walk_cons hw
    obtain ⟨e4, a4, b4, hw⟩ := walk_cons hw
    refine ⟨_, hw, fun st lv σ ca cb v off k hx hv hk ho1 ho => ?_⟩
    obtain ⟨w, w1, w2⟩ := ho
    refine ⟨910 * w + v, ?_, fun kk => m_si a0 b0 (m_ld a1 b1 w1 (m_mul a2 b2 (m_ld a3 b3 hx (m_add a4 b4 kk))))⟩
    have h9 : (910 : Int32).toInt = 910 := by decide
    have e1 : (910 * w).toInt = (off : Int) := by
      rw [Int32.toInt_mul, h9, Int.bmod_eq_of_le (by omega) (by omega)]
      omega
    rw [Int32.toInt_add, e1, hv, Int.bmod_eq_of_le (by omega) (by omega)]
    rfl
end MAC2
noncomputable def copyTs2 (H x ci dF sF ex : Nat) (dh sh : Option Nat) : List (Nat → XE → Bool) := tLd x :: tSi :: tGe ex :: tA0 :: tGf ci dF :: (idxTs x dh ++ (tA0 :: tGf ci sF :: (idxTs x sh ++ [tIl, tIs, tInc x, tGo H])))
theorem cpyL_get {f g : List Int32} {sp dp n i : Nat} (h1 : sp + n ≤ f.length) (h2 : dp + n ≤ g.length) : (cpyL f g sp dp n)[i]? = if i < dp then g[i]? else if i < dp + n then f[sp + (i - dp)]? else g[i]? := by
  unfold cpyL
  by_cases c1 : i < dp
  · rw [if_pos c1, List.getElem?_append_left (by rw [List.length_take]; omega), List.getElem?_take, if_pos c1]
  · rw [if_neg c1, List.getElem?_append_right (by rw [List.length_take]; omega), List.length_take, Nat.min_eq_left (by omega)]
    by_cases c2 : i < dp + n
    · rw [if_pos c2, List.getElem?_append_left (by rw [List.length_take, List.length_drop]; omega), List.getElem?_take, if_pos (by omega), List.getElem?_drop]
    · rw [if_neg c2, List.getElem?_append_right (by rw [List.length_take, List.length_drop]; omega), List.length_take, List.length_drop, Nat.min_eq_left (by omega), List.getElem?_drop]
      congr 1
      omega
theorem cpyL_len {f g : List Int32} {sp dp n : Nat} (h1 : sp + n ≤ f.length) (h2 : dp + n ≤ g.length) : (cpyL f g sp dp n).length = g.length := by
  unfold cpyL
  rw [List.length_append, List.length_append, List.length_take, List.length_take, List.length_drop, List.length_drop]
  omega
theorem offIs_set {lv : LV} {x : Nat} {v : Value} {hh : Option Nat} {off : Nat} (h : offIs lv hh off) (hne : hh ≠ some x) : offIs (lvSet1 lv x v) hh off := by
  cases hh with
  | none => exact h
  | some j =>
    obtain ⟨w, w1, w2⟩ := h
    exact ⟨w, lvGet_s1_ne w1 (fun e => hne (by rw [e])) (Or.inl (show (1 : Nat) ≠ 2 by decide)), w2⟩
/-- the loop from place k on -/
theorem copy_loop2 {ini : Bool} {o nL : Nat} {tb : List (List (Option XE))} {d : Nat} {Q : Res → Prop} {H x ci dF sF ex q0 qd qs : Nat} {dh sh : Option Nat} {fl : List Value} {f g0 : List Int32} {st : List Value} {od os : Nat} (hw : walk tb H (copyTs2 H x ci dF sF ex dh sh) = true) (hx0 : x ≠ 0) (hxl : x < nL) (hne : qd ≠ qs) (hn0 : qd ≠ q0) (hdh : dh ≠ some x) (hsh : sh ≠ some x) (hf : os + 910 ≤ f.length) (hg0 : od + 910 ≤ g0.length) (hfl : f.length < 50000) (hgl : g0.length < 50000) (hd : fl[dF]? = some (.ref qd)) (hs : fl[sF]? = some (.ref qs)) : ∀ (n k : Nat) (v : Int32) (lv : LV) (σ : SH), n + k = 910 → v.toInt = k → lvGet lv x = some (.int v) → lvGet lv 0 = some (.ref q0) → offIs lv dh od → offIs lv sh os → σ[q0]? = some (.inl (ci, fl)) → σ[qs]? = some (.inr (0, .inl f)) → σ[qd]? = some (.inr (0, .inl (cpyL f g0 os od k))) →
    ∃ lvE : LV, (∀ j w, j ≠ x → lvGet lv j = some w → (w.category ≠ 2 ∨ j + 1 ≠ x) → lvGet lvE j = some w) ∧ lvGet lvE x = some (.int 910) ∧ (∀ m, lvOk m lv → lvOk m lvE) ∧ ∀ ca cb, Good none ini o nL tb d Q (ex, st, lvE, σ.set qd (.inr (0, .inl (cpyL f g0 os od 910))), ca, cb) → Good none ini o nL tb d Q (H, st, lv, σ, ca, cb) := by
  intro n
  obtain ⟨e0, a0, b0, hw⟩ := walk_cons hw
  obtain ⟨e1, a1, b1, hw⟩ := walk_cons hw
  obtain ⟨e2, a2, b2, hw⟩ := walk_cons hw
  obtain ⟨e3, a3, b3, hw⟩ := walk_cons hw
  obtain ⟨e4, a4, b4, hw⟩ := walk_cons hw
  obtain ⟨p5, hw, b5⟩ := m_idx (ini := ini) (o := o) (nL := nL) (d := d) (Q := Q) hw
  obtain ⟨e6, a6, b6, hw⟩ := walk_cons hw
  obtain ⟨e7, a7, b7, hw⟩ := walk_cons hw
  obtain ⟨p8, hw, b8⟩ := m_idx (ini := ini) (o := o) (nL := nL) (d := d) (Q := Q) hw
  obtain ⟨e9, a9, b9, hw⟩ := walk_cons hw
  obtain ⟨e10, a10, b10, hw⟩ := walk_cons hw
  obtain ⟨e11, a11, b11, hw⟩ := walk_cons hw
  obtain ⟨e12, a12, b12, -⟩ := walk_cons hw
  have h910 : (910 : Int32).toInt = 910 := by decide
  induction n with
  | zero =>
    intro k v lv σ hnk hv hx h0 hod hos hq0 hqs hqd
    have hk : k = 910 := by omega
    subst hk
    have hv' : v = 910 := Int32.toInt_inj.mp (by rw [hv, h910]; rfl)
    have hset : σ.set qd (.inr (0, .inl (cpyL f g0 os od 910))) = σ := by
      refine List.ext_getElem? fun j => ?_
      by_cases hj : qd = j
      · subst hj
        rw [List.getElem?_set_self (List.getElem?_eq_some_iff.mp hqd).1, hqd]
      · rw [List.getElem?_set_ne hj]
    refine ⟨lv, fun j w _ h _ => h, by rw [hx, hv'], fun m h => h, fun ca cb kk => m_ld a0 b0 hx (m_si a1 b1 (m_ge a2 b2 ?_))⟩
    rw [if_pos (by rw [hv']; exact Int32.le_refl _)]
    rw [hset] at kk
    exact kk
  | succ n ih =>
    intro k v lv σ hnk hv hx h0 hod hos hq0 hqs hqd
    have hv1 : (v + 1).toInt = ((k + 1 : Nat) : Int) := by
      rw [Int32.toInt_add, hv, show (1 : Int32).toInt = 1 by decide, Int.bmod_eq_of_le (by omega) (by omega)]
      rfl
    have hlt : qd < σ.length := (List.getElem?_eq_some_iff.mp hqd).1
    have hin : ∀ (j : Int32) (t : Nat) (l : List Int32), j.toInt = (t : Int) → t < l.length → inB j l.length = true ∧ j.toNatClampNeg = t := fun j t l h1 h2 => by
      have hcl : j.toNatClampNeg = t := by
        have : j.toNatClampNeg = j.toInt.toNat := rfl
        rw [this, h1]
        exact Int.toNat_natCast t
      refine ⟨?_, hcl⟩
      unfold inB
      rw [Bool.and_eq_true, decide_eq_true_eq, decide_eq_true_eq, hcl, Int32.le_iff_toInt_le, h1]
      exact ⟨Int.natCast_nonneg t, h2⟩
    have hlen := cpyL_len (f := f) (g := g0) (sp := os) (dp := od) (n := k) (by omega) (by omega)
    have hrow : (cpyL f g0 os od k).set (od + k) (f.getD (os + k) 0) = cpyL f g0 os od (k + 1) := by
      refine List.ext_getElem? fun i => ?_
      rw [cpyL_get (by omega) (by omega)]
      by_cases hi : od + k = i
      · subst hi
        rw [List.getElem?_set_self (by omega), if_neg (by omega), if_pos (by omega), getD_lt (by omega), show os + (od + k - od) = os + k by omega, List.getElem?_eq_getElem (by omega)]
      · rw [List.getElem?_set_ne hi, cpyL_get (by omega) (by omega)]
        by_cases c1 : i < od
        · rw [if_pos c1, if_pos c1]
        · rw [if_neg c1, if_neg c1]
          by_cases c2 : i < od + k
          · rw [if_pos c2, if_pos (by omega)]
          · rw [if_neg c2, if_neg (by omega)]
    obtain ⟨lvE, i1, i2, i3, i4⟩ := ih (k + 1) (v + 1) (lvSet1 lv x (.int (v + 1))) (σ.set qd (.inr (0, .inl (cpyL f g0 os od (k + 1))))) (by omega) hv1 lvGet_s1 (lvGet_s1_ne h0 hx0 (Or.inl (show (1 : Nat) ≠ 2 by decide))) (offIs_set hod hdh) (offIs_set hos hsh) (by rw [List.getElem?_set_ne hn0]; exact hq0) (by rw [List.getElem?_set_ne hne]; exact hqs) (by rw [List.getElem?_set_self hlt])
    refine ⟨lvE, fun j w hj hw hc => i1 j w hj (lvGet_s1_ne hw (fun e => hj e.symm) hc) hc, i2, fun m hm => i3 m (lvOk_set1 hm rfl), fun ca cb kk => m_ld a0 b0 hx (m_si a1 b1 (m_ge a2 b2 ?_))⟩
    rw [if_neg (by rw [Int32.le_iff_toInt_le, hv, h910]; omega)]
    refine m_a0 a3 b3 h0 (m_gf a4 b4 hq0 hd ?_)
    obtain ⟨j1, k1, c1⟩ := b5 (.ref qd :: st) lv σ ca cb v od k hx hv (by omega) (by omega) hod
    refine c1 (m_a0 a6 b6 h0 (m_gf a7 b7 hq0 hs ?_))
    obtain ⟨j2, k2, c2⟩ := b8 (.ref qs :: .int j1 :: .ref qd :: st) lv σ ca cb v os k hx hv (by omega) (by omega) hos
    have q1 := hin j1 (od + k) (cpyL f g0 os od k) k1 (by omega)
    have q2 := hin j2 (os + k) f k2 (by omega)
    refine c2 (m_il a9 b9 hqs q2.1 (m_is a10 b10 hqd q1.1 (m_inc a11 b11 hx hxl (m_go a12 b12 ?_))))
    rw [q1.2, q2.2, hrow]
    refine i4 ca cb ?_
    rw [set_set]
    exact kk
theorem gI_dt {l : List Int32} {n i : Nat} (h : i < 910) : gI ((l.drop n).take 910) i = gI l (n + i) := by
  unfold gI
  rw [List.getD_eq_getElem?_getD, List.getD_eq_getElem?_getD, List.getElem?_take, if_pos h, List.getElem?_drop]
theorem okSteps_congr {l l' : List Int32} (hl : l'.length = 910) (h : ∀ i, i < 910 → gI l' i = gI l i) (hp : okSteps l) : okSteps l' :=
  ⟨hl, fun i hi => by
    rw [h _ (by omega), h _ (by omega), h _ (by omega), h _ (by omega)]
    exact hp.2 i hi⟩
theorem okHarm_congr {l l' : List Int32} (h : ∀ i, i < 910 → gI l' i = gI l i) (hp : okHarm l) : okHarm l' := fun i hi => by
  rw [h _ (by omega), h _ (by omega)]
  exact hp i hi
theorem gI_cpy {f g : List Int32} {sp dp i : Nat} (h1 : sp + 910 ≤ f.length) (h2 : dp + 910 ≤ g.length) (hi : i < 910) : gI (cpyL f g sp dp 910) (dp + i) = gI f (sp + i) := by
  unfold gI
  rw [List.getD_eq_getElem?_getD, List.getD_eq_getElem?_getD, cpyL_get h1 h2, if_neg (by omega), if_pos (by omega), show dp + i - dp = i by omega]
theorem gI_cpy_out {f g : List Int32} {sp dp i : Nat} (h1 : sp + 910 ≤ f.length) (h2 : dp + 910 ≤ g.length) (hi : i < dp ∨ dp + 910 ≤ i) : gI (cpyL f g sp dp 910) i = gI g i := by
  unfold gI
  rw [List.getD_eq_getElem?_getD, List.getD_eq_getElem?_getD, cpyL_get h1 h2]
  by_cases c1 : i < dp
  · rw [if_pos c1]
  · rw [if_neg c1, if_neg (by omega)]
noncomputable def offOf (hh : Option Nat) (lv : AL) (tab : Tb) : Option Nat := match hh with
  | none => some 0
  | some h => match alGet h lv with
    | some (.inl (false, e)) => (match cst tab e with
      | some (.ofNat w) => bif Nat.blt w 50 then some (Nat.mul w 910) else none
      | _ => none)
    | _ => none
theorem offOf_ok {ρ : Nat → Int} {hh : Option Nat} {lv : AL} {clv : LV} {tab : Tb} {off : Nat} (ht : tOk ρ tab) (hl : lvR ρ clv lv) (h : offOf hh lv tab = some off) : offIs clv hh off := by
  unfold offOf at h
  split at h
  · cases h; exact rfl
  · split at h
    · rename_i hx
      split at h
      · rename_i w hc
        cases z : Nat.blt w 50 with
        | false => rw [z] at h; cases h
        | true =>
          rw [z] at h
          cases h
          obtain ⟨v, v1, v2⟩ := lvR_get hl hx
          obtain ⟨x, e1, e2⟩ := vI_inv v2
          subst e1
          refine ⟨x, v1, ?_⟩
          rw [e2, cst_ok ht hc]
          rfl
      · cases h
    · cases h
noncomputable def hasK (k q : Nat) (pr : List PD) : Bool := pr.any (fun p => decide (p = (k, [q], [])))
/-- what is known of the row written to -/
noncomputable def prOff (tab : Tb) (d s od os n : Nat) (pr : List PD) : List PD :=
  (bif Nat.beq os 0 then (bif hasK 1 s pr then (bif hasK 2 s pr then [(6, [d], [kL (.ofNat od)])] else []) else []) else []) ++
  ((match findC tab 6 s os pr with
    | some [] => bif (bif Nat.beq od 0 then Nat.beq n 910 else false) then [(1, [d], []), (2, [d], [])] else []
    | _ => []) ++
  pr.filter (fun p => match p with
    | (6, [q], [(.ofNat c, [])]) => bif Nat.beq q d then (bif Nat.ble (Nat.add c 910) od then true else Nat.ble (Nat.add od 910) c) else false
    | _ => false))
theorem hasK_ok {k q : Nat} {pr : List PD} (h : hasK k q pr = true) : (k, [q], []) ∈ pr := by
  obtain ⟨p, h1, h2⟩ := List.any_eq_true.mp h
  rw [← of_decide_eq_true h2]
  exact h1
theorem prOff_ok {ρ : Nat → Int} {tab : Tb} {cσ : SH} {pr : List PD} {d s od os n : Nat} {f g : List Int32} (ht : tOk ρ tab) (hp : prOk PPk ρ cσ pr) (hs : cσ[s]? = some (.inr (0, .inl f))) (hd : cσ[d]? = some (.inr (0, .inl g))) (h1 : os + 910 ≤ f.length) (h2 : od + 910 ≤ g.length) (hn : g.length = n) : prOk PPk ρ (cσ.set d (.inr (0, .inl (cpyL f g os od 910)))) (prOff tab d s od os n pr) := fun p hq => by
  have hdl : d < cσ.length := (List.getElem?_eq_some_iff.mp hd).1
  have eS : arrI (cσ.getD s (.inl (0, []))) = f := by rw [List.getD_eq_getElem?_getD, hs]; rfl
  have eD : arrI (cσ.getD d (.inl (0, []))) = g := by rw [List.getD_eq_getElem?_getD, hd]; rfl
  have eN : arrI ((cσ.set d (.inr (0, .inl (cpyL f g os od 910)))).getD d (.inl (0, []))) = cpyL f g os od 910 := by rw [List.getD_eq_getElem?_getD, List.getElem?_set_self hdl]; rfl
  have hcl := cpyL_len (f := f) (g := g) (sp := os) (dp := od) (n := 910) h1 h2
  have hlen : ∀ {l : List Int32} {m : Nat}, m + 910 ≤ l.length → ((l.drop m).take 910).length = 910 := fun {l m} hm => by
    rw [List.length_take, List.length_drop]
    omega
  unfold prOff at hq
  rcases List.mem_append.mp hq with hA | hq2
  · cases z1 : Nat.beq os 0 with
    | false => rw [z1] at hA; cases hA
    | true =>
      rw [z1, cond_true] at hA
      cases z2 : hasK 1 s pr with
      | false => rw [z2] at hA; cases hA
      | true =>
        rw [z2, cond_true] at hA
        cases z3 : hasK 2 s pr with
        | false => rw [z3] at hA; cases hA
        | true =>
          rw [z3, cond_true] at hA
          rw [List.mem_singleton.mp hA]
          have e0 := Nat.eq_of_beq_eq_true z1
          subst e0
          have p1 : okSteps (arrI (cσ.getD s (.inl (0, [])))) := hp _ (hasK_ok z2)
          have p2 : okHarm (arrI (cσ.getD s (.inl (0, [])))) := hp _ (hasK_ok z3)
          rw [eS] at p1 p2
          show PPn 6 [arrI ((cσ.set d (.inr (0, .inl (cpyL f g 0 od 910)))).getD d (.inl (0, [])))] [ev ρ (kL (.ofNat od))]
          rw [eN, ev_k]
          have hc : ∀ i, i < 910 → gI (((cpyL f g 0 od 910).drop od).take 910) i = gI f i := fun i hi => by
            rw [gI_dt hi, gI_cpy h1 h2 hi, Nat.zero_add]
          exact ⟨rfl, od, rfl, by omega, okSteps_congr (hlen (by omega)) hc p1, okHarm_congr hc p2⟩
  · rcases List.mem_append.mp hq2 with hB | hC
    · split at hB
      · rename_i hf
        cases z1 : (bif Nat.beq od 0 then Nat.beq n 910 else false) with
        | false => rw [z1] at hB; cases hB
        | true =>
          rw [z1, cond_true] at hB
          obtain ⟨z2, z3⟩ := cand z1
          have e1 := Nat.eq_of_beq_eq_true z2
          have e2 := Nat.eq_of_beq_eq_true z3
          subst e1
          obtain ⟨e, m1, m2⟩ := findC_ok hf
          obtain ⟨-, n', q1, q2, q3, q4⟩ := (show PPn 6 [arrI (cσ.getD s (.inl (0, [])))] [ev ρ e] from hp _ m1)
          rw [cst_ok ht m2] at q1
          have hn' : n' = os := by omega
          subst hn'
          rw [eS] at q3 q4
          have hc : ∀ i, i < 910 → gI (cpyL f g n' 0 910) i = gI ((f.drop n').take 910) i := fun i hi => by
            have := gI_cpy h1 h2 hi
            rw [Nat.zero_add] at this
            rw [gI_dt hi, this]
          rcases List.mem_cons.mp hB with rfl | hB
          · show okSteps (arrI _)
            rw [eN]
            exact okSteps_congr (by omega) hc q3
          · rw [List.mem_singleton.mp hB]
            show okHarm (arrI _)
            rw [eN]
            exact okHarm_congr hc q4
      · cases hB
    · obtain ⟨m1, m2⟩ := List.mem_filter.mp hC
      split at m2
      · rename_i _ q c
        cases z1 : Nat.beq q d with
        | false => rw [z1] at m2; cases m2
        | true =>
          rw [z1, cond_true] at m2
          have e1 := Nat.eq_of_beq_eq_true z1
          subst e1
          have hoff : c + 910 ≤ od ∨ od + 910 ≤ c := by
            cases z2 : Nat.ble (Nat.add c 910) od with
            | true => exact Or.inl (Nat.le_of_ble_eq_true z2)
            | false => rw [z2] at m2; exact Or.inr (Nat.le_of_ble_eq_true m2)
          obtain ⟨-, n', q1, q2, q3, q4⟩ := (show PPn 6 [arrI (cσ.getD q (.inl (0, [])))] [ev ρ (.ofNat c, [])] from hp _ m1)
          rw [show ev ρ ((.ofNat c, []) : Ln) = (c : Int) from ev_k ρ c] at q1
          have hn' : n' = c := by omega
          subst hn'
          rw [eD] at q2 q3 q4
          show PPn 6 [arrI ((cσ.set q (.inr (0, .inl (cpyL f g os od 910)))).getD q (.inl (0, [])))] [ev ρ (.ofNat n', [])]
          rw [eN, show ev ρ ((.ofNat n', []) : Ln) = (n' : Int) from ev_k ρ n']
          have hc : ∀ i, i < 910 → gI (((cpyL f g os od 910).drop n').take 910) i = gI ((g.drop n').take 910) i := fun i hi => by
            rw [gI_dt hi, gI_dt hi, gI_cpy_out h1 h2 (by omega)]
          exact ⟨rfl, n', rfl, by omega, okSteps_congr (hlen (by omega)) hc q3, okHarm_congr hc q4⟩
      · cases m2
/-- the seal of a program: what is known of the row written to -/
noncomputable def off9 (d s od os : Nat) (p : PD) : Option PD := match p.2.1, p.2.2 with
  | [q], [(.ofNat o, []), n, t] => bif Nat.beq p.1 9 then (bif Nat.beq q s then (bif Nat.ble os o then (bif Nat.ble (Nat.add o 240) (Nat.add os 910) then some (9, [d], [kL (.ofNat (Nat.add (Nat.sub o os) od)), n, t]) else none) else none) else bif Nat.beq q d then (bif Nat.ble (Nat.add o 240) od then some p else bif Nat.ble (Nat.add od 910) o then some p else none) else none) else none
  | _, _ => none
theorem pn9 {ρ : Nat → Int} {cσ : SH} {pr : List PD} {q : Nat} {e n s : Ln} (h : prOk PPk ρ cσ pr) (hm : (9, [q], [e, n, s]) ∈ pr) : okSlR (arrI (cσ.getD q (.inl (0, [])))) (ev ρ e) (ev ρ n) (ev ρ s) := (show PPn 9 [arrI (cσ.getD q (.inl (0, [])))] [ev ρ e, ev ρ n, ev ρ s] from h _ hm).elim (fun x => absurd x.1 (by decide)) (fun x => x.elim (fun x => x.2) (fun x => absurd x.1 (by decide)))
theorem off9_ok {ρ : Nat → Int} {cσ : SH} {pr : List PD} {d s od os : Nat} {f g : List Int32} (hp : prOk PPk ρ cσ pr) (hne : d ≠ s) (hs : cσ[s]? = some (.inr (0, .inl f))) (hd : cσ[d]? = some (.inr (0, .inl g))) (h1 : os + 910 ≤ f.length) (h2 : od + 910 ≤ g.length) : prOk PPk ρ (cσ.set d (.inr (0, .inl (cpyL f g os od 910)))) (pr.filterMap (off9 d s od os)) := fun p hq => by
  have hdl : d < cσ.length := (List.getElem?_eq_some_iff.mp hd).1
  have eS : arrI (cσ.getD s (.inl (0, []))) = f := by rw [List.getD_eq_getElem?_getD, hs]; rfl
  have eD : arrI (cσ.getD d (.inl (0, []))) = g := by rw [List.getD_eq_getElem?_getD, hd]; rfl
  have eN : arrI ((cσ.set d (.inr (0, .inl (cpyL f g os od 910)))).getD d (.inl (0, []))) = cpyL f g os od 910 := by rw [List.getD_eq_getElem?_getD, List.getElem?_set_self hdl]; rfl
  have hcl := cpyL_len (f := f) (g := g) (sp := os) (dp := od) (n := 910) h1 h2
  replace hq := List.mem_filterMap.mp hq
  obtain ⟨p0, hm, hq⟩ := hq
  unfold off9 at hq
  split at hq
  · rename_i q o n t hq1 hq2
    obtain ⟨k0, l0, ns0⟩ := p0
    try dsimp only at hq1 hq2 hq
    subst hq1; subst hq2
    cases z0 : Nat.beq k0 9 with
    | false => rw [z0] at hq; cases hq
    | true =>
      rw [z0, cond_true] at hq
      have ek := Nat.eq_of_beq_eq_true z0
      subst ek
      obtain ⟨p1, m, q1, q2, q3, q4, q5⟩ := pn9 hp hm
      rw [show ev ρ ((.ofNat o, []) : Ln) = (o : Int) from ev_k ρ o] at q1
      have ep : p1 = o := by omega
      subst ep
      cases z1 : Nat.beq q s with
      | true =>
        rw [z1, cond_true] at hq
        have eq := Nat.eq_of_beq_eq_true z1
        subst eq
        cases z2 : Nat.ble os p1 with
        | false => rw [z2] at hq; cases hq
        | true =>
          rw [z2, cond_true] at hq
          have z2' := Nat.le_of_ble_eq_true z2
          cases z3 : Nat.ble (Nat.add p1 240) (Nat.add os 910) with
          | false => rw [z3] at hq; cases hq
          | true =>
            rw [z3, cond_true] at hq
            have z3' : p1 + 240 ≤ os + 910 := Nat.le_of_ble_eq_true z3
            cases hq
            rw [eS] at q4 q5
            show PPn 9 [arrI ((cσ.set d (.inr (0, .inl (cpyL f g os od 910)))).getD d (.inl (0, [])))] [ev ρ (kL (.ofNat (p1 - os + od))), ev ρ n, ev ρ t]
            rw [eN, ev_k]
            refine Or.inr (Or.inl ⟨rfl, p1 - os + od, m, rfl, q2, q3, by omega, ?_⟩)
            rw [q5]
            refine (pR_eq m fun j hj => ?_).symm
            have := gI_cpy (i := p1 - os + j) h1 h2 (by omega)
            rw [show p1 - os + od + j = od + (p1 - os + j) by omega, this, show os + (p1 - os + j) = p1 + j by omega]
      | false =>
        rw [z1, cond_false] at hq
        cases z2 : Nat.beq q d with
        | false => rw [z2] at hq; cases hq
        | true =>
          rw [z2, cond_true] at hq
          have eq := Nat.eq_of_beq_eq_true z2
          subst eq
          have hout : (p1 + 240 ≤ od ∨ od + 910 ≤ p1) ∧ p = (9, [q], [(.ofNat p1, []), n, t]) := by
            cases z3 : Nat.ble (Nat.add p1 240) od with
            | true => rw [z3] at hq; cases hq; exact ⟨Or.inl (Nat.le_of_ble_eq_true z3), rfl⟩
            | false =>
              rw [z3, cond_false] at hq
              cases z4 : Nat.ble (Nat.add od 910) p1 with
              | true => rw [z4] at hq; cases hq; exact ⟨Or.inr (Nat.le_of_ble_eq_true z4), rfl⟩
              | false => rw [z4] at hq; cases hq
          obtain ⟨hout, rfl⟩ := hout
          rw [eD] at q4 q5
          show PPn 9 [arrI ((cσ.set q (.inr (0, .inl (cpyL f g os od 910)))).getD q (.inl (0, [])))] [ev ρ (.ofNat p1, []), ev ρ n, ev ρ t]
          rw [eN, show ev ρ ((.ofNat p1, []) : Ln) = (p1 : Int) from ev_k ρ p1]
          refine Or.inr (Or.inl ⟨rfl, p1, m, rfl, q2, q3, by omega, ?_⟩)
          rw [q5]
          exact (pR_eq m fun j hj => gI_cpy_out h1 h2 (by omega)).symm
  · cases hq
theorem okOcc_mv {x y x' y' : List Int32} {bx bY bx' bY' s : Nat} {n o : Int} (h : ∀ m : Nat, n = m → m ≤ 8 → ∀ i, i < m → (bx' + s * i < x'.length ∧ bY' + s * i < y'.length) ∧ slF x' bx' s i = slF x bx s i ∧ slF y' bY' s i = slF y bY s i) (hp : okOccG x y bx bY s n o) : okOccG x' y' bx' bY' s n o := by
  obtain ⟨m, w, h1, h2, h3, h4, h5⟩ := hp
  have h0 := h m h1 h3
  refine ⟨m, w, h1, h2, h3, fun i hi => ⟨(h0 i hi).1, ?_⟩, fun j => ?_⟩
  · rw [(h0 i hi).2.1, (h0 i hi).2.2]
    exact (h4 i hi).2
  · rw [h5 j]
    constructor
    · rintro ⟨i, i1, i2, i3⟩
      refine ⟨i, i1, ?_⟩
      rw [(h0 i i1).2.1, (h0 i i1).2.2]
      exact ⟨i2, i3⟩
    · rintro ⟨i, i1, i2, i3⟩
      refine ⟨i, i1, ?_⟩
      rw [← (h0 i i1).2.1, ← (h0 i i1).2.2]
      exact ⟨i2, i3⟩
noncomputable def off17 (d s od os : Nat) (p : PD) : Option PD := match p.2.1, p.2.2 with
  | [q], [(.ofNat o, []), n, t] => bif Nat.beq p.1 17 then (bif Nat.beq q s then (bif Nat.ble os o then (bif Nat.ble (Nat.add o 40) (Nat.add os 910) then some (17, [d], [kL (.ofNat (Nat.add (Nat.sub o os) od)), n, t]) else none) else none) else bif Nat.beq q d then (bif Nat.ble (Nat.add o 40) od then some p else bif Nat.ble (Nat.add od 910) o then some p else none) else none) else none
  | _, _ => none
theorem pn17 {ρ : Nat → Int} {cσ : SH} {pr : List PD} {q c : Nat} {n s : Ln} (h : prOk PPk ρ cσ pr) (hm : (17, [q], [(.ofNat c, []), n, s]) ∈ pr) : okOccG (arrI (cσ.getD q (.inl (0, [])))) (arrI (cσ.getD q (.inl (0, [])))) (c + 1) (c + 2) 3 (ev ρ n) (ev ρ s) := by
  have h1 : PPn 17 [arrI (cσ.getD q (.inl (0, [])))] [ev ρ (.ofNat c, []), ev ρ n, ev ρ s] := h _ hm
  rcases h1 with h1 | h1 | h1
  · exact absurd h1.1 (by decide)
  · exact absurd h1.1 (by decide)
  · obtain ⟨-, c', e, h2⟩ := h1
    rw [show ev ρ ((.ofNat c, []) : Ln) = (c : Int) from ev_k ρ c] at e
    have ec : c' = c := by omega
    rw [ec] at h2
    exact h2
theorem pn17_mk {l : List Int32} {c : Nat} {n s : Int} (h : okOccG l l (c + 1) (c + 2) 3 n s) : PPn 17 [l] [(c : Int), n, s] := Or.inr (Or.inr ⟨rfl, c, rfl, h⟩)
theorem off17_ok {ρ : Nat → Int} {cσ : SH} {pr : List PD} {d s od os : Nat} {f g : List Int32} (hp : prOk PPk ρ cσ pr) (hs : cσ[s]? = some (.inr (0, .inl f))) (hd : cσ[d]? = some (.inr (0, .inl g))) (h1 : os + 910 ≤ f.length) (h2 : od + 910 ≤ g.length) : prOk PPk ρ (cσ.set d (.inr (0, .inl (cpyL f g os od 910)))) (pr.filterMap (off17 d s od os)) := fun p hq => by
  have hdl : d < cσ.length := (List.getElem?_eq_some_iff.mp hd).1
  have eS : arrI (cσ.getD s (.inl (0, []))) = f := by rw [List.getD_eq_getElem?_getD, hs]; rfl
  have eD : arrI (cσ.getD d (.inl (0, []))) = g := by rw [List.getD_eq_getElem?_getD, hd]; rfl
  have eN : arrI ((cσ.set d (.inr (0, .inl (cpyL f g os od 910)))).getD d (.inl (0, []))) = cpyL f g os od 910 := by rw [List.getD_eq_getElem?_getD, List.getElem?_set_self hdl]; rfl
  have hcl := cpyL_len (f := f) (g := g) (sp := os) (dp := od) (n := 910) h1 h2
  replace hq := List.mem_filterMap.mp hq
  obtain ⟨p0, hm, hq⟩ := hq
  unfold off17 at hq
  split at hq
  · rename_i q o n t hq1 hq2
    obtain ⟨k0, l0, ns0⟩ := p0
    try dsimp only at hq1 hq2 hq
    subst hq1; subst hq2
    cases z0 : Nat.beq k0 17 with
    | false => rw [z0] at hq; cases hq
    | true =>
      rw [z0, cond_true] at hq
      have ek := Nat.eq_of_beq_eq_true z0
      subst ek
      have h3 := pn17 hp hm
      cases z1 : Nat.beq q s with
      | true =>
        rw [z1, cond_true] at hq
        have eq := Nat.eq_of_beq_eq_true z1
        subst eq
        cases z2 : Nat.ble os o with
        | false => rw [z2] at hq; cases hq
        | true =>
          rw [z2, cond_true] at hq
          have z2' := Nat.le_of_ble_eq_true z2
          cases z3 : Nat.ble (Nat.add o 40) (Nat.add os 910) with
          | false => rw [z3] at hq; cases hq
          | true =>
            rw [z3, cond_true] at hq
            have z3' : o + 40 ≤ os + 910 := Nat.le_of_ble_eq_true z3
            cases hq
            rw [eS] at h3
            show PPn 17 [arrI ((cσ.set d (.inr (0, .inl (cpyL f g os od 910)))).getD d (.inl (0, [])))] [ev ρ (kL (.ofNat (o - os + od))), ev ρ n, ev ρ t]
            rw [eN, ev_k]
            refine pn17_mk (okOcc_mv (fun m _ hm8 i hi => ⟨⟨by omega, by omega⟩, ?_, ?_⟩) h3)
            · have := gI_cpy (i := o - os + 1 + 3 * i) h1 h2 (by omega)
              unfold slF
              rw [show o - os + od + 1 + 3 * i = od + (o - os + 1 + 3 * i) by omega, this, show os + (o - os + 1 + 3 * i) = o + 1 + 3 * i by omega]
            · have := gI_cpy (i := o - os + 2 + 3 * i) h1 h2 (by omega)
              unfold slF
              rw [show o - os + od + 2 + 3 * i = od + (o - os + 2 + 3 * i) by omega, this, show os + (o - os + 2 + 3 * i) = o + 2 + 3 * i by omega]
      | false =>
        rw [z1, cond_false] at hq
        cases z2 : Nat.beq q d with
        | false => rw [z2] at hq; cases hq
        | true =>
          rw [z2, cond_true] at hq
          have eq := Nat.eq_of_beq_eq_true z2
          subst eq
          have hout : (o + 40 ≤ od ∨ od + 910 ≤ o) ∧ p = (17, [q], [(.ofNat o, []), n, t]) := by
            cases z3 : Nat.ble (Nat.add o 40) od with
            | true => rw [z3] at hq; cases hq; exact ⟨Or.inl (Nat.le_of_ble_eq_true z3), rfl⟩
            | false =>
              rw [z3, cond_false] at hq
              cases z4 : Nat.ble (Nat.add od 910) o with
              | true => rw [z4] at hq; cases hq; exact ⟨Or.inr (Nat.le_of_ble_eq_true z4), rfl⟩
              | false => rw [z4] at hq; cases hq
          obtain ⟨hout, rfl⟩ := hout
          rw [eD] at h3
          show PPn 17 [arrI ((cσ.set q (.inr (0, .inl (cpyL f g os od 910)))).getD q (.inl (0, [])))] [ev ρ (.ofNat o, []), ev ρ n, ev ρ t]
          rw [eN, show ev ρ ((.ofNat o, []) : Ln) = (o : Int) from ev_k ρ o]
          have hlen : ∀ m : Nat, ev ρ n = m → ∀ i, i < m → o + 1 + 3 * i < g.length ∧ o + 2 + 3 * i < g.length := fun m hm i hi => by
            obtain ⟨m', w, e1, -, -, e4, -⟩ := h3
            have em : m' = m := by omega
            subst em
            exact (e4 i hi).1
          refine pn17_mk (okOcc_mv (fun m hm hm8 i hi => ⟨?_, ?_, ?_⟩) h3)
          · rw [hcl]
            exact hlen m hm i hi
          · exact gI_cpy_out h1 h2 (by omega)
          · exact gI_cpy_out h1 h2 (by omega)
  · cases hq
noncomputable def mCopyO (H x ci dF sF ex : Nat) (dh sh : Option Nat) : MC := fun nL tb pc st lv A pr nx tab fs => bif (bif Nat.beq pc H then (bif Nat.blt 0 x then (bif Nat.blt x nL then decide (dh ≠ some x ∧ sh ≠ some x) else false) else false) else false) then (bif walk tb H (copyTs2 H x ci dF sF ex dh sh) then (match alGet x lv, alGet 0 lv with
  | some (.inl (false, e)), some (.inr (.inl (some o))) => (match cst tab e, A[o]?, offOf dh lv tab, offOf sh lv tab with
    | some (.ofNat 0), some (.inl (c', as)), some od, some os => (match refAt as dF, refAt as sF with
      | some d, some s => (match A[d]?, A[s]? with
        | some (.inr (0, .inl gs)), some (.inr (0, .inl ss)) => bif (bif Nat.beq c' ci then (bif Nat.beq d s then false else (bif Nat.ble (Nat.add os 910) (sgLen ss) then (bif Nat.ble (Nat.add od 910) (sgLen gs) then (bif Nat.blt (sgLen ss) 50000 then Nat.blt (sgLen gs) 50000 else false) else false) else false)) else false) then (match sgSplit ss os, sgSplit gs od, sgSplit gs (Nat.add od 910) with
          | some (_, s1), some (g1, _), some (_, g3) => (match sgSplit s1 910 with
            | some (m, _) => some (ex, st, (x, .inl (false, kL (.ofNat 910))) :: alDel false x lv, A.set d (.inr (0, .inl (g1 ++ (m ++ g3)))), prOff tab d s od os (sgLen gs) pr ++ (pr.filterMap (off9 d s od os) ++ (pr.filterMap (off17 d s od os) ++ prDel d pr)), nx, tab, fs)
            | none => none)
          | _, _, _ => none) else none
        | _, _ => none)
      | _, _ => none)
    | _, _, _, _ => none)
  | _, _ => none) else none) else none
theorem lv_behind {ρ : Nat → Int} {clv lvE : LV} {lv : AL} {x : Nat} (h : lvR ρ clv lv) (k1 : ∀ j w, j ≠ x → lvGet clv j = some w → (w.category ≠ 2 ∨ j + 1 ≠ x) → lvGet lvE j = some w) {v : Int32} {e : Ln} (k2 : lvGet lvE x = some (.int v)) (hv : v.toInt = ev ρ e) : lvR ρ lvE ((x, .inl (false, e)) :: alDel false x lv) := by
  intro q hq
  rcases List.mem_cons.mp hq with rfl | hq
  · exact ⟨_, k2, v, rfl, hv⟩
  · obtain ⟨m1, m2, m3⟩ := alDel_sub q hq
    obtain ⟨w, w1, w2⟩ := h q m1
    refine ⟨w, k1 q.1 w m2 w1 ?_, w2⟩
    by_cases hj : q.1 + 1 = x
    · left
      rw [catA_ok w2]
      exact m3 hj
    · exact Or.inr hj
theorem mCopyO_ok (H x ci dF sF ex : Nat) (dh sh : Option Nat) : McOk PPk (mCopyO H x ci dF sF ex dh sh) := by
  intro ini o nL tb d Q pc st lv A pr nx tab fs pc' st' lv' A' pr' nx' tab' fs' ρ cst0 clv cσ h hr hp hlv
  unfold mCopyO at h
  obtain ⟨g0, hk⟩ : (bif Nat.beq pc H then (bif Nat.blt 0 x then (bif Nat.blt x nL then decide (dh ≠ some x ∧ sh ≠ some x) else false) else false) else false) = true ∧ _ := by
    cases z : (bif Nat.beq pc H then (bif Nat.blt 0 x then (bif Nat.blt x nL then decide (dh ≠ some x ∧ sh ≠ some x) else false) else false) else false) with
    | false => rw [z] at h; cases h
    | true => rw [z] at h; exact ⟨rfl, h⟩
  clear h
  obtain ⟨g1, g2⟩ := cand g0
  obtain ⟨g3, g4⟩ := cand g2
  obtain ⟨g5, g6⟩ := cand g4
  have g7 := of_decide_eq_true g6
  have epc := Nat.eq_of_beq_eq_true g1
  subst epc
  simp only [cond_true] at hk
  cases hw : walk tb pc (copyTs2 pc x ci dF sF ex dh sh) with
  | false => rw [hw] at hk; cases hk
  | true =>
    rw [hw] at hk
    simp only [cond_true] at hk
    split at hk
    · rename_i e q0 hx h0
      split at hk
      · rename_i c' as od os hc hA0 hod hos
        split at hk
        · rename_i qd qs hd hs
          split at hk
          · rename_i gs ss hAd hAs
            cases z : (bif Nat.beq c' ci then (bif Nat.beq qd qs then false else (bif Nat.ble (Nat.add os 910) (sgLen ss) then (bif Nat.ble (Nat.add od 910) (sgLen gs) then (bif Nat.blt (sgLen ss) 50000 then Nat.blt (sgLen gs) 50000 else false) else false) else false)) else false) with
            | false => rw [z] at hk; cases hk
            | true =>
              rw [z] at hk
              simp only [cond_true] at hk
              obtain ⟨z1, zz⟩ := cand z
              clear z
              have ec := Nat.eq_of_beq_eq_true z1
              subst ec
              have hzz : Nat.beq qd qs = false ∧ (bif Nat.ble (Nat.add os 910) (sgLen ss) then (bif Nat.ble (Nat.add od 910) (sgLen gs) then (bif Nat.blt (sgLen ss) 50000 then Nat.blt (sgLen gs) 50000 else false) else false) else false) = true := by
                cases y : Nat.beq qd qs with
                | true => rw [y, cond_true] at zz; cases zz
                | false => rw [y, cond_false] at zz; exact ⟨rfl, zz⟩
              have hne : qd ≠ qs := fun e => by
                have := hzz.1
                rw [e, Nat.beq_refl] at this
                cases this
              obtain ⟨y1, y2⟩ := cand hzz.2
              obtain ⟨y3, y4⟩ := cand y2
              obtain ⟨y5, y6⟩ := cand y4
              split at hk
              · rename_i s0 s1 g1' g2' g2'' g3' hs1 hg1 hg3
                split at hk
                · rename_i mm m2 hm
                  cases hk
                  obtain ⟨t1, t2, t3, t4, t5⟩ := hr ρ agr2.rf
                  obtain ⟨vx, vx1, vx2⟩ := lvR_get t4 hx
                  obtain ⟨v, ev1, ev2⟩ := vI_inv vx2
                  subst ev1
                  obtain ⟨v0, v01, v02⟩ := lvR_get t4 h0
                  have := vR_inv v02
                  subst this
                  obtain ⟨co, co1, co2⟩ := rel2_get t5 hA0
                  obtain ⟨fl, co3, co4⟩ := crO_inv co2
                  subst co3
                  obtain ⟨cd, cd1, cd2⟩ := rel2_get t5 hAd
                  obtain ⟨g, cd3, cd4⟩ := crI_inv (by decide) cd2
                  subst cd3
                  obtain ⟨cs, cs1, cs2⟩ := rel2_get t5 hAs
                  obtain ⟨f, cs3, cs4⟩ := crI_inv (by decide) cs2
                  subst cs3
                  have lf : f.length = sgLen ss := srel_len cs4
                  have lg : g.length = sgLen gs := srel_len cd4
                  have b1 : os + 910 ≤ f.length := by rw [lf]; exact Nat.le_of_ble_eq_true y1
                  have b2 : od + 910 ≤ g.length := by rw [lg]; exact Nat.le_of_ble_eq_true y3
                  have b3 : f.length < 50000 := by rw [lf]; exact blt_iff.mp y5
                  have b4 : g.length < 50000 := by rw [lg]; exact blt_iff.mp y6
                  have hv : v.toInt = (0 : Nat) := by
                    rw [ev2, cst_ok t1 hc]
                    rfl
                  have hn0 : qd ≠ q0 := fun e => by
                    subst e
                    rw [hAd] at hA0
                    cases hA0
                  have hcp : cpyL f g os od 0 = g := List.ext_getElem? fun i => by
                    rw [cpyL_get (by omega) (by omega)]
                    by_cases c1 : i < od
                    · rw [if_pos c1]
                    · rw [if_neg c1, if_neg (by omega)]
                  obtain ⟨lvE, k1, k2, k3, k4⟩ := copy_loop2 (ini := ini) (o := o) (d := d) (Q := Q) (st := cst0) (g0 := g) (f := f) hw (by have := blt_iff.mp g3; omega) (blt_iff.mp g5) hne hn0 g7.1 g7.2 b1 b2 b3 b4 (refAt_ok co4 hd) (refAt_ok co4 hs) 910 0 v clv cσ rfl hv vx1 v01 (offOf_ok t1 t4 hod) (offOf_ok t1 t4 hos) co1 cs1 (by rw [hcp]; exact cd1)
                  refine ⟨cst0, lvE, _, ρ, Nat.le_refl _, agr2.rf, fun ρ' ha => ⟨(hr ρ' ha).1, (hr ρ' ha).2.1, (hr ρ' ha).2.2.1, lv_behind (hr ρ' ha).2.2.2.1 k1 k2 (by rw [ev_k]; rfl), ?_⟩, fun ρ' ha p hq => ?_, ?_, fun cca ccb hk => k4 cca ccb hk⟩
                  · obtain ⟨w1, w2, w3, w4, w5⟩ := hr ρ' ha
                    obtain ⟨cs', x1, x2⟩ := rel2_get w5 hAs
                    rw [cs1] at x1
                    cases x1
                    obtain ⟨f', y1', y2'⟩ := crI_inv (by decide) x2
                    cases y1'
                    obtain ⟨cd', x3, x4⟩ := rel2_get w5 hAd
                    rw [cd1] at x3
                    cases x3
                    obtain ⟨g', y3', y4'⟩ := crI_inv (by decide) x4
                    cases y3'
                    refine rel2_set w5 (arel_mk (by decide) ?_)
                    unfold cpyL
                    exact srel_app (sgSplit_ok y4' hg1).1 (srel_app (sgSplit_ok (sgSplit_ok y2' hs1).2 hm).1 (sgSplit_ok y4' hg3).2)
                  · rcases List.mem_append.mp hq with hq | hq
                    · exact prOff_ok (hr ρ' ha).1 (hp ρ' ha) cs1 cd1 b1 b2 lg p hq
                    · rcases List.mem_append.mp hq with hq | hq
                      · exact off9_ok (hp ρ' ha) hne cs1 cd1 b1 b2 p hq
                      · rcases List.mem_append.mp hq with hq | hq
                        · exact off17_ok (hp ρ' ha) cs1 cd1 b1 b2 p hq
                        · exact prOk_set (hp ρ' ha) qd _ p hq
                  · rw [List.length_set]
                    exact k3 _ hlv
                · cases hk
              · cases hk
          · cases hk
        · cases hk
      · cases hk
    · cases hk
