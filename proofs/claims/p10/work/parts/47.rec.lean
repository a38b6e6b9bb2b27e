/-! ===== a step at a place that isn't told: its act case by case, its numbers by name ===== -/
noncomputable def recN (q1 q2 q3 q4 : Nat) (e1 e2 e3 e4 : Ln) (A : AH) (pr : List PD) (nx : Nat) (tab : Tb) (fs : List Ln) (n : Nat) : HR := (A, (7, [q1], [e1, kL (.ofNat n)]) :: (7, [q2], [e2, sL nx]) :: (7, [q3], [e3, sL (Nat.add nx 1)]) :: (7, [q4], [e4, sL (Nat.add nx 2)]) :: pr, Nat.add nx 3, tbIns (Nat.add nx 2) (rgC n).1 (rgC n).2 (tbIns (Nat.add nx 1) (rgB n).1 (rgB n).2 (tbIns nx (.ofNat 0) (.ofNat 11) tab)), fs)
noncomputable def recL (q1 q2 q3 q4 : Nat) (e1 e2 e3 e4 : Ln) (A : AH) (pr : List PD) (nx : Nat) (tab : Tb) (fs : List Ln) : List HR := (List.range 11).map (recN q1 q2 q3 q4 e1 e2 e3 e4 A pr nx tab fs)
section REC
variable {nx : Nat} {tab : Tb} {fs : List Ln} {A : AH} {pr : List PD} {ρ : Nat → Int} {cσ : SH}
theorem pr_7 {q i : Nat} {e v : Ln} {ρ : Nat → Int} {pr : List PD} (h : prOk PPk ρ cσ pr) (h1 : ev ρ e = i) (h2 : gI (arrI (cσ.getD q (.inl (0, [])))) i = ev ρ v) : prOk PPk ρ cσ ((7, [q], [e, v]) :: pr) :=
  List.forall_mem_cons.mpr ⟨show PPn 7 [arrI (cσ.getD q (.inl (0, [])))] [ev ρ e, ev ρ v] from Or.inr ⟨rfl, i, h1, h2⟩, h⟩
theorem recL_ok {q1 q2 q3 q4 : Nat} {e1 e2 e3 e4 : Ln} {i1 i2 i3 i4 : Nat} (hr : ∀ ρ', agr2 nx ρ ρ' → tOk ρ' tab ∧ fOk ρ' fs ∧ rel2 (crel ρ') cσ A) (hp : ∀ ρ', agr2 nx ρ ρ' → prOk PPk ρ' cσ pr) (he : ∀ ρ', agr2 nx ρ ρ' → (ev ρ' e1 = i1 ∧ ev ρ' e2 = i2) ∧ ev ρ' e3 = i3 ∧ ev ρ' e4 = i4) (h : okRec (gI (arrI (cσ.getD q1 (.inl (0, [])))) i1) (gI (arrI (cσ.getD q2 (.inl (0, [])))) i2) (gI (arrI (cσ.getD q3 (.inl (0, [])))) i3) (gI (arrI (cσ.getD q4 (.inl (0, [])))) i4)) : ∃ Q ∈ recL q1 q2 q3 q4 e1 e2 e3 e4 A pr nx tab fs, HGood ρ nx cσ Q := by
  obtain ⟨n, hn⟩ : ∃ n : Nat, gI (arrI (cσ.getD q1 (.inl (0, [])))) i1 = n := ⟨(gI (arrI (cσ.getD q1 (.inl (0, [])))) i1).toNat, by have := h.1.1; omega⟩
  have hle := h.1.2
  have hb := rgB_ok h hn (gI_32 _ _)
  have hc := rgC_ok h hn (gI_32 _ _)
  have ha := h.2.1
  generalize hva : gI (arrI (cσ.getD q2 (.inl (0, [])))) i2 = va at ha
  generalize hvb : gI (arrI (cσ.getD q3 (.inl (0, [])))) i3 = vb at hb
  generalize hvc : gI (arrI (cσ.getD q4 (.inl (0, [])))) i4 = vc at hc
  refine ⟨_, List.mem_map.mpr ⟨n, List.mem_range.mpr (by omega), rfl⟩, fun j => if j = nx then va else if j = nx + 1 then vb else if j = nx + 2 then vc else ρ j, ?_, ?_, ?_, ?_⟩
  · show nx ≤ nx + 3
    omega
  · intro i hi
    show (if i = nx then va else if i = nx + 1 then vb else if i = nx + 2 then vc else ρ i) = ρ i
    rw [if_neg (by omega), if_neg (by omega), if_neg (by omega)]
  all_goals
    intro ρ' hag
    have hag' : agr2 nx ρ ρ' := fun i hi => by
      have h1 := hag i (show i < nx + 3 by omega)
      rw [h1]
      show (if i = nx then va else if i = nx + 1 then vb else if i = nx + 2 then vc else ρ i) = ρ i
      rw [if_neg (by omega), if_neg (by omega), if_neg (by omega)]
    have w0 : ρ' nx = va := (hag nx (show nx < nx + 3 by omega)).trans (if_pos rfl)
    have w1 : ρ' (nx + 1) = vb := (hag (nx + 1) (show nx + 1 < nx + 3 by omega)).trans (by
      show (if nx + 1 = nx then va else if nx + 1 = nx + 1 then vb else if nx + 1 = nx + 2 then vc else ρ (nx + 1)) = vb
      rw [if_neg (by omega), if_pos rfl])
    have w2 : ρ' (nx + 2) = vc := (hag (nx + 2) (show nx + 2 < nx + 3 by omega)).trans (by
      show (if nx + 2 = nx then va else if nx + 2 = nx + 1 then vb else if nx + 2 = nx + 2 then vc else ρ (nx + 2)) = vc
      rw [if_neg (by omega), if_neg (by omega), if_pos rfl])
    obtain ⟨t1, t2, t3⟩ := hr ρ' hag'
    obtain ⟨⟨g1, g2⟩, g3, g4⟩ := he ρ' hag'
  · refine ⟨tOk_cons (tOk_cons (tOk_cons t1 ?_ ?_) ?_ ?_) ?_ ?_, t2, t3⟩
    · show (0 : Int) ≤ ρ' nx; rw [w0]; exact ha.1
    · show ρ' nx ≤ (11 : Int); rw [w0]; exact ha.2
    · show _ ≤ ρ' (nx + 1); rw [w1]; exact hb.1
    · show ρ' (nx + 1) ≤ _; rw [w1]; exact hb.2
    · show _ ≤ ρ' (nx + 2); rw [w2]; exact hc.1
    · show ρ' (nx + 2) ≤ _; rw [w2]; exact hc.2
  · refine pr_7 (pr_7 (pr_7 (pr_7 (hp ρ' hag') g4 ?_) g3 ?_) g2 ?_) g1 ?_
    · rw [hvc, ev_s]; exact w2.symm
    · rw [hvb, ev_s]; exact w1.symm
    · rw [hva, ev_s]; exact w0.symm
    · rw [hn, ev_k]; rfl
end REC
/-- of the model's row; the number of the step stands in a local -/
noncomputable def fRec (loc : Nat) : HF := fun _ lv A pr nx tab fs => match srcV loc lv A with
  | some (.inl (false, e)) => bif (bif scL nx e then inF tab fs 0 (.ofNat 119) e else false) then (match pr.find? (fun p => Nat.beq p.1 1) with
    | some (_, [q], []) => some (recL q q q q (pluL (sclL (.ofNat 4) e) (.ofNat 200)) (pluL (sclL (.ofNat 4) e) (.ofNat 201)) (pluL (sclL (.ofNat 4) e) (.ofNat 202)) (pluL (sclL (.ofNat 4) e) (.ofNat 203)) A pr nx tab fs)
    | _ => none) else none
  | _ => none
theorem fRec_ok (loc : Nat) : HFOk PPk (fRec loc) := by
  intro pc lv A pr nx tab fs L ρ clv cσ h hr hp
  have hr' : ∀ ρ', agr2 nx ρ ρ' → tOk ρ' tab ∧ fOk ρ' fs ∧ rel2 (crel ρ') cσ A := fun ρ' ha => ⟨(hr ρ' ha).1, (hr ρ' ha).2.1, (hr ρ' ha).2.2.2⟩
  unfold fRec at h
  split at h
  · rename_i e he
    cases hz : (bif scL nx e then inF tab fs 0 (.ofNat 119) e else false) with
    | false => rw [hz] at h; cases h
    | true =>
      rw [hz, cond_true] at h
      obtain ⟨hsc, hz⟩ := cand hz
      split at h
      · rename_i kk q hf
        cases h
        have hm := List.mem_of_find?_eq_some hf
        have hk0 := List.find?_some (p := fun p : PD => Nat.beq p.1 1) hf
        have hk := Nat.eq_of_beq_eq_true hk0
        try dsimp only at hk
        subst hk
        have hP : okSteps _ := hp ρ agr2.rf _ hm
        have hin := inF_ok (hr ρ agr2.rf).1 (hr ρ agr2.rf).2.1 hz
        have e119 : (Int.ofNat 119) = 119 := rfl
        obtain ⟨i, hi⟩ : ∃ i : Nat, ev ρ e = i := ⟨(ev ρ e).toNat, by omega⟩
        have hE : ∀ ρ', agr2 nx ρ ρ' → ∀ c : Nat, ev ρ' (pluL (sclL (.ofNat 4) e) (.ofNat c)) = ((c + 4 * i : Nat) : Int) := fun ρ' ha c => by
          rw [ev_plu, ev_scl, scL_ev ha hsc, hi]
          show (4 : Int) * (i : Int) + (c : Int) = ((c + 4 * i : Nat) : Int)
          omega
        exact recL_ok hr' hp (fun ρ' ha => ⟨⟨hE ρ' ha 200, hE ρ' ha 201⟩, hE ρ' ha 202, hE ρ' ha 203⟩) (hP.2 i (by omega))
      · cases h
  · cases h
/-- of the program of the class that a local's object holds -/
noncomputable def fRecO (loc obj f : Nat) : HF := fun _ lv A pr nx tab fs => match srcV loc lv A, alGet obj lv with
  | some (.inl (false, e)), some (.inr (.inl (some o))) => (match A[o]? with
    | some (.inl (_, as)) => (match refAt as f, refAt as (Nat.succ f), refAt as (Nat.succ (Nat.succ f)), refAt as (Nat.succ (Nat.succ (Nat.succ f))) with
      | some t, some a, some b, some c => bif (bif (bif scL nx e then inF tab fs 0 (.ofNat 59) e else false) then pr.any (fun p => decide (p = (0, [t, a, b, c], []))) else false) then some (recL t a b c e e e e A pr nx tab fs) else none
      | _, _, _, _ => none)
    | _ => none)
  | _, _ => none
theorem fRecO_ok (loc obj f : Nat) : HFOk PPk (fRecO loc obj f) := by
  intro pc lv A pr nx tab fs L ρ clv cσ h hr hp
  have hr' : ∀ ρ', agr2 nx ρ ρ' → tOk ρ' tab ∧ fOk ρ' fs ∧ rel2 (crel ρ') cσ A := fun ρ' ha => ⟨(hr ρ' ha).1, (hr ρ' ha).2.1, (hr ρ' ha).2.2.2⟩
  unfold fRecO at h
  split at h
  · rename_i e o _ _
    split at h
    · split at h
      · rename_i t a b c _ _ _ _
        cases hz : (bif (bif scL nx e then inF tab fs 0 (.ofNat 59) e else false) then pr.any (fun p => decide (p = (0, [t, a, b, c], []))) else false) with
        | false => rw [hz] at h; cases h
        | true =>
          rw [hz, cond_true] at h
          cases h
          obtain ⟨hz, z2⟩ := cand hz
          obtain ⟨hsc, hz⟩ := cand hz
          obtain ⟨p, hm, hpe⟩ := List.any_eq_true.mp z2
          have hpe' := of_decide_eq_true hpe
          subst hpe'
          have hP : okProg _ _ _ _ := hp ρ agr2.rf _ hm
          have hin := inF_ok (hr ρ agr2.rf).1 (hr ρ agr2.rf).2.1 hz
          have e59 : (Int.ofNat 59) = 59 := rfl
          obtain ⟨i, hi⟩ : ∃ i : Nat, ev ρ e = i := ⟨(ev ρ e).toNat, by omega⟩
          have hE : ∀ ρ', agr2 nx ρ ρ' → ev ρ' e = (i : Int) := fun ρ' ha => (scL_ev ha hsc).trans hi
          exact recL_ok hr' hp (fun ρ' ha => ⟨⟨hE ρ' ha, hE ρ' ha⟩, hE ρ' ha, hE ρ' ha⟩) (hP.2 i (by omega))
      · cases h
    · cases h
  · cases h
/-- an element of a row at a place that isn't told gets a name -/
noncomputable def fEl1 (q : Nat) (e : Ln) (A : AH) (pr : List PD) (nx : Nat) (tab : Tb) (fs : List Ln) (s : List Sg) : Option (List HR) := match idxR tab fs e with
  | some (a, b) => (match sgHull tab s a b with
    | some (lo, hi) => some [(A, (7, [q], [e, sL nx]) :: pr, Nat.succ nx, tbIns nx lo hi tab, fs)]
    | none => none)
  | none => none
noncomputable def isNo {α : Type} (o : Option α) : Bool := match o with
  | some _ => false
  | none => true
noncomputable def fEl (base f loc : Nat) : HF := fun _ lv A pr nx tab fs => match rowF lv A f, alGet loc lv with
  | some q, some (.inl (false, v)) => (match A[q]? with
    | some (.inr (k, .inl s)) => bif (bif Nat.beq k 0 then (bif scL nx (pluL v (.ofNat base)) then (bif inF tab fs lo32 hi32 (pluL v (.ofNat base)) then isNo (findE tab fs q (pluL v (.ofNat base)) pr) else false) else false) else false) then fEl1 q (pluL v (.ofNat base)) A pr nx tab fs s else none
    | _ => none)
  | _, _ => none
theorem fEl_ok (base f loc : Nat) : HFOk PPk (fEl base f loc) := by
  intro pc lv A pr nx tab fs L ρ clv cσ h hr hp
  unfold fEl at h
  split at h
  · rename_i q v hq hv
    split at h
    · rename_i k s hA
      generalize pluL v (.ofNat base) = e at h
      cases hc : (bif Nat.beq k 0 then (bif scL nx e then (bif inF tab fs lo32 hi32 e then isNo (findE tab fs q e pr) else false) else false) else false) with
      | false => rw [hc] at h; cases h
      | true =>
        rw [hc, cond_true] at h
        obtain ⟨k1, hc⟩ := cand hc
        obtain ⟨hsc, hc⟩ := cand hc
        obtain ⟨hin, -⟩ := cand hc
        have ek := Nat.eq_of_beq_eq_true k1
        subst ek
        unfold fEl1 at h
        split at h
        · rename_i a b hix
          split at h
          · rename_i lo hi hh
            cases h
            obtain ⟨r1, r2, r3, r4⟩ := hr ρ agr2.rf
            obtain ⟨c, hc1, hc2⟩ := rel2_get r4 hA
            obtain ⟨l, e5, hl⟩ := crI_inv (by decide) hc2
            subst e5
            have hb := inF_ok r1 r2 hin
            have hx : (Int32.ofInt (ev ρ e)).toInt = ev ρ e := k32 hb.1 hb.2
            obtain ⟨p1, p2, p3⟩ := idxR_ok r1 r2 hx hix
            obtain ⟨y, y1, y2, y3⟩ := sgHull_ok r1 hl hh _ p2 p3
            have p0 : (0 : Int) ≤ (Int32.ofInt (ev ρ e)).toInt := Int32.le_iff_toInt_le.mp p1
            have hn : ev ρ e = ((Int32.ofInt (ev ρ e)).toNatClampNeg : Int) := by
              have hcl : (Int32.ofInt (ev ρ e)).toNatClampNeg = (Int32.ofInt (ev ρ e)).toInt.toNat := rfl
              rw [hcl]
              omega
            generalize (Int32.ofInt (ev ρ e)).toNatClampNeg = n at hn y1
            have hg : gI (arrI (cσ.getD q (.inl (0, [])))) n = y.toInt := by
              have e6 : arrI (cσ.getD q (.inl (0, []))) = l := by
                rw [List.getD_eq_getElem?_getD, hc1]
                rfl
              rw [e6]
              unfold gI
              rw [List.getD_eq_getElem?_getD, y1]
              rfl
            refine ⟨_, List.mem_cons_self, fun j => if j = nx then y.toInt else ρ j, Nat.le_succ nx, ev_upd, fun ρ' ha => ?_, fun ρ' ha => ?_⟩
            all_goals
              have ha' : agr2 nx ρ ρ' := fun i hi => (ha i (Nat.lt_succ_of_lt hi)).trans (ev_upd i hi)
              have hw : ρ' nx = y.toInt := (ha nx (Nat.lt_succ_self nx)).trans (if_pos rfl)
            · obtain ⟨t1, t2, t3, t4⟩ := hr ρ' ha'
              exact ⟨tOk_cons t1 (by rw [hw]; exact y2) (by rw [hw]; exact y3), t2, t4⟩
            · refine pr_7 (hp ρ' ha') ((scL_ev ha' hsc).trans hn) ?_
              rw [hg, ev_s]
              exact hw.symm
          · cases h
        · cases h
    · cases h
  · cases h
