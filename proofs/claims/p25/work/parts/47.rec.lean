/-! ===== a step at a place that isn't told: its act case by case, its numbers by name ===== -/
noncomputable def recN (q1 q2 q3 q4 : Nat) (e1 e2 e3 e4 : Ln) (A : AH) (pr : List PD) (nx : Nat) (tab : Tb) (fs : List Ln) (n : Nat) : HR := (A, (7, [q1], [e1, kL (.ofNat n)]) :: (7, [q2], [e2, sL nx]) :: (7, [q3], [e3, sL (Nat.add nx 1)]) :: (7, [q4], [e4, sL (Nat.add nx 2)]) :: pr, Nat.add nx 3, tbIns (Nat.add nx 2) (rgC n).1 (rgC n).2 (tbIns (Nat.add nx 1) (rgB n).1 (rgB n).2 (tbIns nx (.ofNat 0) (.ofNat 11) tab)), fs)
noncomputable def recL (q1 q2 q3 q4 : Nat) (e1 e2 e3 e4 : Ln) (A : AH) (pr : List PD) (nx : Nat) (tab : Tb) (fs : List Ln) : List HR := (List.range 11).map (recN q1 q2 q3 q4 e1 e2 e3 e4 A pr nx tab fs)
section REC
variable {nx : Nat} {tab : Tb} {fs : List Ln} {A : AH} {pr : List PD} {ρ : Nat → Int} {cσ : SH}
theorem pr_7 {q i : Nat} {e v : Ln} {ρ : Nat → Int} {pr : List PD} (h : prOk PPk ρ cσ pr) (h1 : ev ρ e = i) (h2 : gI (arrI (cσ.getD q (.inl (0, [])))) i = ev ρ v) : prOk PPk ρ cσ ((7, [q], [e, v]) :: pr) :=
  List.forall_mem_cons.mpr ⟨show PPn 7 [arrI (cσ.getD q (.inl (0, [])))] [ev ρ e, ev ρ v] from Or.inr ⟨rfl, i, h1, h2⟩, h⟩
theorem recL_ok {q1 q2 q3 q4 : Nat} {e1 e2 e3 e4 : Ln} {i1 i2 i3 i4 : Nat} (hr : ∀ ρ', agr2 nx ρ ρ' → tOk ρ' tab ∧ fOk ρ' fs ∧ rel2 (crel ρ') cσ A) (hp : ∀ ρ', agr2 nx ρ ρ' → prOk PPk ρ' cσ pr) (he : ∀ ρ', agr2 nx ρ ρ' → (ev ρ' e1 = i1 ∧ ev ρ' e2 = i2) ∧ ev ρ' e3 = i3 ∧ ev ρ' e4 = i4) (h : okRec (gI (arrI (cσ.getD q1 (.inl (0, [])))) i1) (gI (arrI (cσ.getD q2 (.inl (0, [])))) i2) (gI (arrI (cσ.getD q3 (.inl (0, [])))) i3) (gI (arrI (cσ.getD q4 (.inl (0, [])))) i4)) : ∃ Q ∈ recL q1 q2 q3 q4 e1 e2 e3 e4 A pr nx tab fs, HGood ρ nx cσ Q := by
  obtain ⟨n, hn⟩ : ∃ n : Nat, gI (arrI (cσ.getD q1 (.inl (0, [])))) i1 = n := ⟨(gI (arrI (cσ.getD q1 (.inl (0, [])))) i1).toNat, by have := h.1.1; omega⟩
  have hle := h.1.2
  have hb := rgB_ok h hn (gI_32 _ _)
  have hc := rgC_ok h hn (gI_32 _ _)
  have ha := h.2.1
  generalize hva : gI (arrI (cσ.getD q2 (.inl (0, [])))) i2 = va at ha
  generalize hvb : gI (arrI (cσ.getD q3 (.inl (0, [])))) i3 = vb at hb
  generalize hvc : gI (arrI (cσ.getD q4 (.inl (0, [])))) i4 = vc at hc
  refine ⟨_, List.mem_map.mpr ⟨n, List.mem_range.mpr (by omega), rfl⟩, fun j => if j = nx then va else if j = nx + 1 then vb else if j = nx + 2 then vc else ρ j, ?_, ?_, ?_, ?_⟩
  · show nx ≤ nx + 3
    omega
  · intro i hi
    show (if i = nx then va else if i = nx + 1 then vb else if i = nx + 2 then vc else ρ i) = ρ i
    rw [if_neg (by omega), if_neg (by omega), if_neg (by omega)]
  all_goals
    intro ρ' hag
    have hag' : agr2 nx ρ ρ' := fun i hi => by
      have h1 := hag i (show i < nx + 3 by omega)
      rw [h1]
      show (if i = nx then va else if i = nx + 1 then vb else if i = nx + 2 then vc else ρ i) = ρ i
      rw [if_neg (by omega), if_neg (by omega), if_neg (by omega)]
    have w0 : ρ' nx = va := (hag nx (show nx < nx + 3 by omega)).trans (if_pos rfl)
    have w1 : ρ' (nx + 1) = vb := (hag (nx + 1) (show nx + 1 < nx + 3 by omega)).trans (by
      show (if nx + 1 = nx then va else if nx + 1 = nx + 1 then vb else if nx + 1 = nx + 2 then vc else ρ (nx + 1)) = vb
      rw [if_neg (by omega), if_pos rfl])
    have w2 : ρ' (nx + 2) = vc := (hag (nx + 2) (show nx + 2 < nx + 3 by omega)).trans (by
      show (if nx + 2 = nx then va else if nx + 2 = nx + 1 then vb else if nx + 2 = nx + 2 then vc else ρ (nx + 2)) = vc
      rw [if_neg (by omega), if_neg (by omega), if_pos rfl])
    obtain ⟨t1, t2, t3⟩ := hr ρ' hag'
    obtain ⟨⟨g1, g2⟩, g3, g4⟩ := he ρ' hag'
  · refine ⟨tOk_cons (tOk_cons (tOk_cons t1 ?_ ?_) ?_ ?_) ?_ ?_, t2, t3⟩
    · show (0 : Int) ≤ ρ' nx; rw [w0]; exact ha.1
    · show ρ' nx ≤ (11 : Int); rw [w0]; exact ha.2
    · show _ ≤ ρ' (nx + 1); rw [w1]; exact hb.1
    · show ρ' (nx + 1) ≤ _; rw [w1]; exact hb.2
    · show _ ≤ ρ' (nx + 2); rw [w2]; exact hc.1
    · show ρ' (nx + 2) ≤ _; rw [w2]; exact hc.2
  · refine pr_7 (pr_7 (pr_7 (pr_7 (hp ρ' hag') g4 ?_) g3 ?_) g2 ?_) g1 ?_
    · rw [hvc, ev_s]; exact w2.symm
    · rw [hvb, ev_s]; exact w1.symm
    · rw [hva, ev_s]; exact w0.symm
    · rw [hn, ev_k]; rfl
end REC
/-- of the model's row; the number of the step stands in a local -/
noncomputable def fRec (loc : Nat) : HF := fun _ lv A pr nx tab fs => match srcV loc lv A with
  | some (.inl (false, e)) => bif (bif scL nx e then inF tab fs 0 (.ofNat 119) e else false) then (match pr.find? (fun p => Nat.beq p.1 1) with
    | some (_, [q], []) => some (recL q q q q (pluL (sclL (.ofNat 4) e) (.ofNat 200)) (pluL (sclL (.ofNat 4) e) (.ofNat 201)) (pluL (sclL (.ofNat 4) e) (.ofNat 202)) (pluL (sclL (.ofNat 4) e) (.ofNat 203)) A pr nx tab fs)
    | _ => none) else none
  | _ => none
theorem fRec_ok (loc : Nat) : HFOk PPk (fRec loc) := by
  intro pc lv A pr nx tab fs L ρ clv cσ h hr hp
  have hr' : ∀ ρ', agr2 nx ρ ρ' → tOk ρ' tab ∧ fOk ρ' fs ∧ rel2 (crel ρ') cσ A := fun ρ' ha => ⟨(hr ρ' ha).1, (hr ρ' ha).2.1, (hr ρ' ha).2.2.2⟩
  unfold fRec at h
  split at h
  · rename_i e he
    cases hz : (bif scL nx e then inF tab fs 0 (.ofNat 119) e else false) with
    | false => rw [hz] at h; cases h
    | true =>
      rw [hz, cond_true] at h
      obtain ⟨hsc, hz⟩ := cand hz
      split at h
      · rename_i kk q hf
        cases h
        have hm := List.mem_of_find?_eq_some hf
        have hk0 := List.find?_some (p := fun p : PD => Nat.beq p.1 1) hf
        have hk := Nat.eq_of_beq_eq_true hk0
        try dsimp only at hk
        subst hk
        have hP : okSteps _ := hp ρ agr2.rf _ hm
        have hin := inF_ok (hr ρ agr2.rf).1 (hr ρ agr2.rf).2.1 hz
        have e119 : (Int.ofNat 119) = 119 := rfl
        obtain ⟨i, hi⟩ : ∃ i : Nat, ev ρ e = i := ⟨(ev ρ e).toNat, by omega⟩
        have hE : ∀ ρ', agr2 nx ρ ρ' → ∀ c : Nat, ev ρ' (pluL (sclL (.ofNat 4) e) (.ofNat c)) = ((c + 4 * i : Nat) : Int) := fun ρ' ha c => by
          rw [ev_plu, ev_scl, scL_ev ha hsc, hi]
          show (4 : Int) * (i : Int) + (c : Int) = ((c + 4 * i : Nat) : Int)
          omega
        exact recL_ok hr' hp (fun ρ' ha => ⟨⟨hE ρ' ha 200, hE ρ' ha 201⟩, hE ρ' ha 202, hE ρ' ha 203⟩) (hP.2 i (by omega))
      · cases h
  · cases h
/-- of the program of the class that a local's object holds -/
noncomputable def fRecO (loc obj f : Nat) : HF := fun _ lv A pr nx tab fs => match srcV loc lv A, alGet obj lv with
  | some (.inl (false, e)), some (.inr (.inl (some o))) => (match A[o]? with
    | some (.inl (_, as)) => (match refAt as f, refAt as (Nat.succ f), refAt as (Nat.succ (Nat.succ f)), refAt as (Nat.succ (Nat.succ (Nat.succ f))) with
      | some t, some a, some b, some c => bif (bif (bif scL nx e then inF tab fs 0 (.ofNat 59) e else false) then pr.any (fun p => decide (p = (0, [t, a, b, c], []))) else false) then some (recL t a b c e e e e A pr nx tab fs) else none
      | _, _, _, _ => none)
    | _ => none)
  | _, _ => none
theorem fRecO_ok (loc obj f : Nat) : HFOk PPk (fRecO loc obj f) := by
  intro pc lv A pr nx tab fs L ρ clv cσ h hr hp
  have hr' : ∀ ρ', agr2 nx ρ ρ' → tOk ρ' tab ∧ fOk ρ' fs ∧ rel2 (crel ρ') cσ A := fun ρ' ha => ⟨(hr ρ' ha).1, (hr ρ' ha).2.1, (hr ρ' ha).2.2.2⟩
  unfold fRecO at h
  split at h
  · rename_i e o _ _
    split at h
    · split at h
      · rename_i t a b c _ _ _ _
        cases hz : (bif (bif scL nx e then inF tab fs 0 (.ofNat 59) e else false) then pr.any (fun p => decide (p = (0, [t, a, b, c], []))) else false) with
        | false => rw [hz] at h; cases h
        | true =>
          rw [hz, cond_true] at h
          cases h
          obtain ⟨hz, z2⟩ := cand hz
          obtain ⟨hsc, hz⟩ := cand hz
          obtain ⟨p, hm, hpe⟩ := List.any_eq_true.mp z2
          have hpe' := of_decide_eq_true hpe
          subst hpe'
          have hP : okProg _ _ _ _ := hp ρ agr2.rf _ hm
          have hin := inF_ok (hr ρ agr2.rf).1 (hr ρ agr2.rf).2.1 hz
          have e59 : (Int.ofNat 59) = 59 := rfl
          obtain ⟨i, hi⟩ : ∃ i : Nat, ev ρ e = i := ⟨(ev ρ e).toNat, by omega⟩
          have hE : ∀ ρ', agr2 nx ρ ρ' → ev ρ' e = (i : Int) := fun ρ' ha => (scL_ev ha hsc).trans hi
          exact recL_ok hr' hp (fun ρ' ha => ⟨⟨hE ρ' ha, hE ρ' ha⟩, hE ρ' ha, hE ρ' ha⟩) (hP.2 i (by omega))
      · cases h
    · cases h
  · cases h
/-- an element of a row at a place that isn't told gets a name -/
noncomputable def fEl1 (q : Nat) (e : Ln) (A : AH) (pr : List PD) (nx : Nat) (tab : Tb) (fs : List Ln) (s : List Sg) : Option (List HR) := match idxR tab fs e with
  | some (a, b) => (match sgHull tab s a b with
    | some (lo, hi) => some [(A, (7, [q], [e, sL nx]) :: pr, Nat.succ nx, tbIns nx lo hi tab, fs)]
    | none => none)
  | none => none
noncomputable def isNo {α : Type} (o : Option α) : Bool := match o with
  | some _ => false
  | none => true
noncomputable def fEl (base f loc : Nat) : HF := fun _ lv A pr nx tab fs => match rowF lv A f, alGet loc lv with
  | some q, some (.inl (false, v)) => (match A[q]? with
    | some (.inr (k, .inl s)) => bif (bif Nat.beq k 0 then (bif scL nx (pluL v (.ofNat base)) then (bif inF tab fs lo32 hi32 (pluL v (.ofNat base)) then isNo (findE tab fs q (pluL v (.ofNat base)) pr) else false) else false) else false) then fEl1 q (pluL v (.ofNat base)) A pr nx tab fs s else none
    | _ => none)
  | _, _ => none
theorem fEl_ok (base f loc : Nat) : HFOk PPk (fEl base f loc) := by
  intro pc lv A pr nx tab fs L ρ clv cσ h hr hp
  unfold fEl at h
  split at h
  · rename_i q v hq hv
    split at h
    · rename_i k s hA
      generalize pluL v (.ofNat base) = e at h
      cases hc : (bif Nat.beq k 0 then (bif scL nx e then (bif inF tab fs lo32 hi32 e then isNo (findE tab fs q e pr) else false) else false) else false) with
      | false => rw [hc] at h; cases h
      | true =>
        rw [hc, cond_true] at h
        obtain ⟨k1, hc⟩ := cand hc
        obtain ⟨hsc, hc⟩ := cand hc
        obtain ⟨hin, -⟩ := cand hc
        have ek := Nat.eq_of_beq_eq_true k1
        subst ek
        unfold fEl1 at h
        split at h
        · rename_i a b hix
          split at h
          · rename_i lo hi hh
            cases h
            obtain ⟨r1, r2, r3, r4⟩ := hr ρ agr2.rf
            obtain ⟨c, hc1, hc2⟩ := rel2_get r4 hA
            obtain ⟨l, e5, hl⟩ := crI_inv (by decide) hc2
            subst e5
            have hb := inF_ok r1 r2 hin
            have hx : (Int32.ofInt (ev ρ e)).toInt = ev ρ e := k32 hb.1 hb.2
            obtain ⟨p1, p2, p3⟩ := idxR_ok r1 r2 hx hix
            obtain ⟨y, y1, y2, y3⟩ := sgHull_ok r1 hl hh _ p2 p3
            have p0 : (0 : Int) ≤ (Int32.ofInt (ev ρ e)).toInt := Int32.le_iff_toInt_le.mp p1
            have hn : ev ρ e = ((Int32.ofInt (ev ρ e)).toNatClampNeg : Int) := by
              have hcl : (Int32.ofInt (ev ρ e)).toNatClampNeg = (Int32.ofInt (ev ρ e)).toInt.toNat := rfl
              rw [hcl]
              omega
            generalize (Int32.ofInt (ev ρ e)).toNatClampNeg = n at hn y1
            have hg : gI (arrI (cσ.getD q (.inl (0, [])))) n = y.toInt := by
              have e6 : arrI (cσ.getD q (.inl (0, []))) = l := by
                rw [List.getD_eq_getElem?_getD, hc1]
                rfl
              rw [e6]
              unfold gI
              rw [List.getD_eq_getElem?_getD, y1]
              rfl
            refine ⟨_, List.mem_cons_self, fun j => if j = nx then y.toInt else ρ j, Nat.le_succ nx, ev_upd, fun ρ' ha => ?_, fun ρ' ha => ?_⟩
            all_goals
              have ha' : agr2 nx ρ ρ' := fun i hi => (ha i (Nat.lt_succ_of_lt hi)).trans (ev_upd i hi)
              have hw : ρ' nx = y.toInt := (ha nx (Nat.lt_succ_self nx)).trans (if_pos rfl)
            · obtain ⟨t1, t2, t3, t4⟩ := hr ρ' ha'
              exact ⟨tOk_cons t1 (by rw [hw]; exact y2) (by rw [hw]; exact y3), t2, t4⟩
            · refine pr_7 (hp ρ' ha') ((scL_ev ha' hsc).trans hn) ?_
              rw [hg, ev_s]
              exact hw.symm
          · cases h
        · cases h
    · cases h
  · cases h
/-! ===== hints: the seals of programs, which of two flies ===== -/
/-- more said of the same state -/
noncomputable def addsP (new : List PD) (A : AH) (pr : List PD) (nx : Nat) (tab : Tb) (fs : List Ln) : Option (List HR) := match new with
  | [] => none
  | p :: r => some [(A, p :: (r ++ pr), nx, tab, fs)]
theorem addsP_ok {new : List PD} {A : AH} {pr : List PD} {nx : Nat} {tab : Tb} {fs : List Ln} {L : List HR} {ρ : Nat → Int} {cσ : SH} (h : addsP new A pr nx tab fs = some L) (hr : ∀ ρ', agr2 nx ρ ρ' → tOk ρ' tab ∧ fOk ρ' fs ∧ rel2 (crel ρ') cσ A) (hp : ∀ ρ', agr2 nx ρ ρ' → prOk PPk ρ' cσ pr) (hn : ∀ ρ', agr2 nx ρ ρ' → prOk PPk ρ' cσ new) : ∃ q ∈ L, HGood ρ nx cσ q := by
  unfold addsP at h
  split at h
  · cases h
  · rename_i p r
    cases h
    refine ⟨_, List.mem_cons_self, hGood0 hr fun ρ' ha q hq => ?_⟩
    rcases List.mem_cons.mp hq with rfl | hq
    · exact hn ρ' ha _ List.mem_cons_self
    · rcases List.mem_append.mp hq with hq | hq
      · exact hn ρ' ha q (List.mem_cons_of_mem _ hq)
      · exact hp ρ' ha q hq
theorem hrA {nx : Nat} {tab : Tb} {fs : List Ln} {A : AH} {lv : AL} {clv : LV} {ρ : Nat → Int} {cσ : SH} (hr : ∀ ρ', agr2 nx ρ ρ' → tOk ρ' tab ∧ fOk ρ' fs ∧ lvR ρ' clv lv ∧ rel2 (crel ρ') cσ A) : ∀ ρ', agr2 nx ρ ρ' → tOk ρ' tab ∧ fOk ρ' fs ∧ rel2 (crel ρ') cσ A := fun ρ' ha => ⟨(hr ρ' ha).1, (hr ρ' ha).2.1, (hr ρ' ha).2.2.2⟩
noncomputable def rows4 (A : AH) (o f : Nat) : Option (Nat × Nat × Nat × Nat) := match A[o]? with
  | some (.inl (_, as)) => (match refAt as f, refAt as (Nat.succ f), refAt as (Nat.succ (Nat.succ f)), refAt as (Nat.succ (Nat.succ (Nat.succ f))) with
    | some a, some b, some c, some d => some (a, b, c, d)
    | _, _, _, _ => none)
  | _ => none
/-- no steps: the seal begins at 17; of the object in a local, whose rows stand from field f on -/
noncomputable def fZ8 (loc f : Nat) : HF := fun _ lv A pr nx tab fs => match alGet loc lv with
  | some (.inr (.inl (some o))) => (match rows4 A o f with
    | some (a, b, c, d) => addsP [(8, [a, b, c, d], [kL (.ofNat 0), kL (.ofNat 17)])] A pr nx tab fs
    | none => none)
  | _ => none
theorem fZ8_ok (loc f : Nat) : HFOk PPk (fZ8 loc f) := by
  intro pc lv A pr nx tab fs L ρ clv cσ h hr hp
  unfold fZ8 at h
  split at h
  · split at h
    · rename_i a b c d _
      refine addsP_ok h (hrA hr) hp fun ρ' _ p hq => ?_
      rw [List.mem_singleton.mp hq]
      refine (show PPn 8 [arrI (cσ.getD a (.inl (0, []))), arrI (cσ.getD b (.inl (0, []))), arrI (cσ.getD c (.inl (0, []))), arrI (cσ.getD d (.inl (0, [])))] [ev ρ' (kL (.ofNat 0)), ev ρ' (kL (.ofNat 17))] from ⟨rfl, 0, ?_, Nat.zero_le _, ⟨Nat.zero_le _, Nat.zero_le _, Nat.zero_le _, Nat.zero_le _⟩, ?_⟩)
      · rw [ev_k]; rfl
      · rw [ev_k]; rfl
    · cases h
  · cases h
/-- the same of the model's row (field f of the object in local 0), from place o on -/
noncomputable def fZ9 (f o : Nat) : HF := fun _ lv A pr nx tab fs => match rowF lv A f with
  | some q => (match A[q]? with
    | some (.inr (k, .inl s)) => bif (bif Nat.blt k 100 then Nat.ble o (sgLen s) else false) then addsP [(9, [q], [kL (.ofNat o), kL (.ofNat 0), kL (.ofNat 17)])] A pr nx tab fs else none
    | _ => none)
  | none => none
theorem fZ9_ok (f o : Nat) : HFOk PPk (fZ9 f o) := by
  intro pc lv A pr nx tab fs L ρ clv cσ h hr hp
  unfold fZ9 at h
  split at h
  · rename_i q _
    split at h
    · rename_i k s hA
      cases z : (bif Nat.blt k 100 then Nat.ble o (sgLen s) else false) with
      | false => rw [z] at h; cases h
      | true =>
        rw [z, cond_true] at h
        obtain ⟨z1, z2⟩ := cand z
        refine addsP_ok h (hrA hr) hp fun ρ' ha p hq => ?_
        rw [List.mem_singleton.mp hq]
        obtain ⟨c, c1, c2⟩ := rel2_get (hr ρ' ha).2.2.2 hA
        obtain ⟨l, e1, e2⟩ := crI_inv (blt_iff.mp z1) c2
        subst e1
        have aD : arrI (cσ.getD q (.inl (0, []))) = l := by
          rw [List.getD_eq_getElem?_getD, c1]
          rfl
        have hl := srel_len e2
        have hle := Nat.le_of_ble_eq_true z2
        show PPn 9 [arrI (cσ.getD q (.inl (0, [])))] [ev ρ' (kL (.ofNat o)), ev ρ' (kL (.ofNat 0)), ev ρ' (kL (.ofNat 17))]
        rw [aD, ev_k, ev_k, ev_k]
        exact Or.inr ⟨rfl, o, 0, rfl, rfl, Nat.zero_le _, by omega, rfl⟩
    · cases h
  · cases h
/-- how many steps, as the constant that it is -/
noncomputable def cn89 (tab : Tb) (p : PD) : Option PD := match p.2.2 with
  | [n, s] => bif Nat.beq p.1 8 then (match cst tab n with
    | some (.ofNat c) => some (p.1, p.2.1, [kL (.ofNat c), s])
    | _ => none) else none
  | [o, n, s] => bif Nat.beq p.1 9 then (match cst tab n with
    | some (.ofNat c) => some (p.1, p.2.1, [o, kL (.ofNat c), s])
    | _ => none) else none
  | _ => none
theorem cn89_ok {ρ : Nat → Int} {tab : Tb} {cσ : SH} {pr : List PD} (ht : tOk ρ tab) (hp : prOk PPk ρ cσ pr) : prOk PPk ρ cσ (pr.filterMap (cn89 tab)) := fun p hq => by
  obtain ⟨p0, hm, hq⟩ := List.mem_filterMap.mp hq
  have h0 := hp p0 hm
  unfold cn89 at hq
  split at hq
  · rename_i n s hns
    cases z : Nat.beq p0.1 8 with
    | false => rw [z] at hq; cases hq
    | true =>
      rw [z, cond_true] at hq
      split at hq
      · rename_i c hc
        cases hq
        rw [hns] at h0
        show PPk p0.1 _ [ev ρ (kL (.ofNat c)), ev ρ s]
        rw [show ev ρ (kL (.ofNat c)) = ev ρ n by rw [ev_k, cst_ok ht hc]]
        exact h0
      · cases hq
  · rename_i o n s hns
    cases z : Nat.beq p0.1 9 with
    | false => rw [z] at hq; cases hq
    | true =>
      rw [z, cond_true] at hq
      split at hq
      · rename_i c hc
        cases hq
        rw [hns] at h0
        show PPk p0.1 _ [ev ρ o, ev ρ (kL (.ofNat c)), ev ρ s]
        rw [show ev ρ (kL (.ofNat c)) = ev ρ n by rw [ev_k, cst_ok ht hc]]
        exact h0
      · cases hq
  · cases hq
noncomputable def fCn : HF := fun _ _ A pr nx tab fs => addsP (pr.filterMap (cn89 tab)) A pr nx tab fs
theorem fCn_ok : HFOk PPk fCn := by
  intro pc lv A pr nx tab fs L ρ clv cσ h hr hp
  exact addsP_ok h (hrA hr) hp fun ρ' ha => cn89_ok (hr ρ' ha).1 (hp ρ' ha)
/-- an element told exactly -/
noncomputable def elA (A : AH) (q i : Nat) : Option Ln := match A[q]? with
  | some (.inr (k, .inl s)) => bif Nat.blt k 100 then (match sgAt s i with
    | some (.inl e) => some e
    | _ => none) else none
  | _ => none
theorem elA_ok {ρ : Nat → Int} {cσ : SH} {A : AH} {q i : Nat} {e : Ln} (hA : rel2 (crel ρ) cσ A) (h : elA A q i = some e) : i < (arrI (cσ.getD q (.inl (0, [])))).length ∧ gI (arrI (cσ.getD q (.inl (0, [])))) i = ev ρ e := by
  unfold elA at h
  split at h
  · rename_i k s hq
    cases z : Nat.blt k 100 with
    | false => rw [z] at h; cases h
    | true =>
      rw [z, cond_true] at h
      split at h
      · rename_i e' hs
        cases h
        obtain ⟨c, c1, c2⟩ := rel2_get hA hq
        obtain ⟨l, e1, e2⟩ := crI_inv (blt_iff.mp z) c2
        subst e1
        have aD : arrI (cσ.getD q (.inl (0, []))) = l := by
          rw [List.getD_eq_getElem?_getD, c1]
          rfl
        obtain ⟨x, x1, x2⟩ := sgAt_ok e2 hs
        rw [aD]
        refine ⟨(List.getElem?_eq_some_iff.mp x1).1, ?_⟩
        unfold gI
        rw [List.getD_eq_getElem?_getD, x1]
        exact x2
      · cases h
  · cases h
noncomputable def sealNx (s t a b c : Ln) : Ln := addL (addL (addL (addL (sclL (.ofNat 923521) s) (sclL (.ofNat 29791) t)) (sclL (.ofNat 961) a)) (sclL (.ofNat 31) b)) c
theorem sealNx_ev {ρ : Nat → Int} {s t a b c : Ln} : ev ρ (sealNx s t a b c) = 923521 * ev ρ s + 29791 * ev ρ t + 961 * ev ρ a + 31 * ev ρ b + ev ρ c := by
  unfold sealNx
  rw [ev_add, ev_add, ev_add, ev_add, ev_scl, ev_scl, ev_scl, ev_scl]
  rfl
/-- one step more: its numbers stand behind those that the seal counts -/
noncomputable def cl89 (A : AH) (p : PD) : Option PD := match p.2.1, p.2.2 with
  | [a, b, c, d], [(.ofNat m, []), s] => bif (bif Nat.beq p.1 8 then Nat.blt m 60 else false) then (match elA A a m, elA A b m, elA A c m, elA A d m with
    | some w, some x, some y, some z => some (8, [a, b, c, d], [kL (.ofNat (Nat.succ m)), sealNx s w x y z])
    | _, _, _, _ => none) else none
  | [q], [(.ofNat o, []), (.ofNat m, []), s] => bif (bif Nat.beq p.1 9 then Nat.blt m 60 else false) then (match elA A q (Nat.add o (Nat.mul 4 m)), elA A q (Nat.add o (Nat.add (Nat.mul 4 m) 1)), elA A q (Nat.add o (Nat.add (Nat.mul 4 m) 2)), elA A q (Nat.add o (Nat.add (Nat.mul 4 m) 3)) with
    | some w, some x, some y, some z => some (9, [q], [kL (.ofNat o), kL (.ofNat (Nat.succ m)), sealNx s w x y z])
    | _, _, _, _ => none) else none
  | _, _ => none
theorem cl89_ok {ρ : Nat → Int} {cσ : SH} {A : AH} {pr : List PD} (hA : rel2 (crel ρ) cσ A) (hp : prOk PPk ρ cσ pr) : prOk PPk ρ cσ (pr.filterMap (cl89 A)) := fun p hq => by
  obtain ⟨p0, hm, hq⟩ := List.mem_filterMap.mp hq
  unfold cl89 at hq
  split at hq
  · rename_i a b c d m s h1 h2
    obtain ⟨k0, l0, ns0⟩ := p0
    try dsimp only at h1 h2 hq
    subst h1; subst h2
    cases z0 : (bif Nat.beq k0 8 then Nat.blt m 60 else false) with
    | false => rw [z0] at hq; cases hq
    | true =>
      rw [z0, cond_true] at hq
      obtain ⟨z1, z2⟩ := cand z0
      have ek := Nat.eq_of_beq_eq_true z1
      subst ek
      have h60 := blt_iff.mp z2
      split at hq
      · rename_i w x y z hw hx hy hz
        cases hq
        obtain ⟨w1, w2⟩ := elA_ok hA hw
        obtain ⟨x1, x2⟩ := elA_ok hA hx
        obtain ⟨y1, y2⟩ := elA_ok hA hy
        obtain ⟨u1, u2⟩ := elA_ok hA hz
        obtain ⟨m', m1, m2, m3, m4⟩ := pn8 hp hm
        rw [show ev ρ ((.ofNat m, []) : Ln) = (m : Int) from ev_k ρ m] at m1
        have em : m' = m := by omega
        subst em
        refine (show PPn 8 [arrI (cσ.getD a (.inl (0, []))), arrI (cσ.getD b (.inl (0, []))), arrI (cσ.getD c (.inl (0, []))), arrI (cσ.getD d (.inl (0, [])))] [ev ρ (kL (.ofNat (Nat.succ m'))), ev ρ (sealNx s w x y z)] from ⟨rfl, m' + 1, ?_, by omega, ⟨w1, x1, y1, u1⟩, ?_⟩)
        · rw [ev_k]; rfl
        · rw [sealNx_ev, ← w2, ← x2, ← y2, ← u2, m4]
          rfl
      · cases hq
  · rename_i q o m s h1 h2
    obtain ⟨k0, l0, ns0⟩ := p0
    try dsimp only at h1 h2 hq
    subst h1; subst h2
    cases z0 : (bif Nat.beq k0 9 then Nat.blt m 60 else false) with
    | false => rw [z0] at hq; cases hq
    | true =>
      rw [z0, cond_true] at hq
      obtain ⟨z1, z2⟩ := cand z0
      have ek := Nat.eq_of_beq_eq_true z1
      subst ek
      have h60 := blt_iff.mp z2
      split at hq
      · rename_i w x y z hw hx hy hz
        cases hq
        obtain ⟨w1, w2⟩ := elA_ok hA hw
        obtain ⟨x1, x2⟩ := elA_ok hA hx
        obtain ⟨y1, y2⟩ := elA_ok hA hy
        obtain ⟨u1, u2⟩ := elA_ok hA hz
        obtain ⟨p', m', m0, m1, m2, m3, m4⟩ := pn9 hp hm
        rw [show ev ρ ((.ofNat o, []) : Ln) = (o : Int) from ev_k ρ o] at m0
        rw [show ev ρ ((.ofNat m, []) : Ln) = (m : Int) from ev_k ρ m] at m1
        have ep : p' = o := by omega
        subst ep
        have em : m' = m := by omega
        subst em
        show PPn 9 [arrI (cσ.getD q (.inl (0, [])))] [ev ρ (kL (.ofNat p')), ev ρ (kL (.ofNat (Nat.succ m'))), ev ρ (sealNx s w x y z)]
        rw [ev_k, ev_k]
        have u1' : p' + (4 * m' + 3) < (arrI (cσ.getD q (.inl (0, [])))).length := u1
        refine Or.inr ⟨rfl, p', m' + 1, rfl, rfl, by omega, by omega, ?_⟩
        rw [sealNx_ev, ← w2, ← x2, ← y2, ← u2, m4]
        rfl
      · cases hq
  · cases hq
noncomputable def fCl : HF := fun _ _ A pr nx tab fs => addsP (pr.filterMap (cl89 A)) A pr nx tab fs
theorem fCl_ok : HFOk PPk fCl := by
  intro pc lv A pr nx tab fs L ρ clv cσ h hr hp
  exact addsP_ok h (hrA hr) hp fun ρ' ha => cl89_ok (hr ρ' ha).2.2.2 (hp ρ' ha)
-- which of two programs flies
abbrev LK : Type := Ln × Ln × Ln × Ln × Ln × Ln × Ln × Ln × Ln
noncomputable def isLk (p : PD) : Option LK := match p.2.1, p.2.2 with
  | [], [al, x0, y0, x1, y1, n, s, m, t] => bif Nat.beq p.1 13 then some (al, x0, y0, x1, y1, n, s, m, t) else none
  | _, _ => none
theorem isLk_inv {p : PD} {al x0 y0 x1 y1 n s m t : Ln} (h : isLk p = some (al, x0, y0, x1, y1, n, s, m, t)) : p = (13, [], [al, x0, y0, x1, y1, n, s, m, t]) := by
  unfold isLk at h
  split at h
  · rename_i h1 h2
    obtain ⟨k0, l0, ns0⟩ := p
    try dsimp only at h1 h2 h
    subst h1; subst h2
    cases z0 : Nat.beq k0 13 with
    | false => rw [z0] at h; cases h
    | true =>
      rw [z0, cond_true] at h
      have ek := Nat.eq_of_beq_eq_true z0
      subst ek
      cases h
      rfl
  · cases h
theorem lk_ok {ρ : Nat → Int} {cσ : SH} {pr : List PD} {al x0 y0 x1 y1 n s m t : Ln} (hp : prOk PPk ρ cσ pr) (hm : (13, [], [al, x0, y0, x1, y1, n, s, m, t]) ∈ pr) : okLk (ev ρ al) (ev ρ x0) (ev ρ y0) (ev ρ x1) (ev ρ y1) (ev ρ n) (ev ρ s) (ev ρ m) (ev ρ t) := (show PPn 13 [] [ev ρ al, ev ρ x0, ev ρ y0, ev ρ x1, ev ρ y1, ev ρ n, ev ρ s, ev ρ m, ev ρ t] from hp _ hm).2
/-- numbers of a program said in other numbers, alike -/
noncomputable def rw8 (tab : Tb) (fs : List Ln) (x y n s : Ln) (p : PD) : Option PD := match p.2.2 with
  | [e, u] => bif Nat.beq p.1 8 then (bif (bif eqL tab fs e x then eqL tab fs u y else false) then some (8, p.2.1, [n, s]) else none) else none
  | _ => none
theorem rw8_ok {ρ : Nat → Int} {tab : Tb} {fs : List Ln} {cσ : SH} {pr : List PD} {x y n s : Ln} (ht : tOk ρ tab) (hf : fOk ρ fs) (hp : prOk PPk ρ cσ pr) (h1 : ev ρ n = ev ρ x) (h2 : ev ρ s = ev ρ y) : prOk PPk ρ cσ (pr.filterMap (rw8 tab fs x y n s)) := fun p hq => by
  obtain ⟨p0, hm, hq⟩ := List.mem_filterMap.mp hq
  have h0 := hp p0 hm
  unfold rw8 at hq
  split at hq
  · rename_i e u hns
    cases z : Nat.beq p0.1 8 with
    | false => rw [z] at hq; cases hq
    | true =>
      rw [z, cond_true] at hq
      cases w : (bif eqL tab fs e x then eqL tab fs u y else false) with
      | false => rw [w] at hq; cases hq
      | true =>
        rw [w] at hq
        cases hq
        obtain ⟨w1, w2⟩ := cand w
        rw [hns, Nat.eq_of_beq_eq_true z] at h0
        show PPk 8 _ [ev ρ n, ev ρ s]
        rw [h1, h2, ← eqL_ok ht hf w1, ← eqL_ok ht hf w2]
        exact h0
  · cases hq
/-- which one flies is told: the numbers of both are those of the two programs -/
noncomputable def fLo : HF := fun _ _ A pr nx tab fs => match pr.findSome? isLk with
  | some (al, x0, y0, x1, y1, n, s, m, t) => (match cst tab al with
    | some (.ofNat 0) => some [(A, pr.filterMap (rw8 tab fs x0 y0 n s) ++ (pr.filterMap (rw8 tab fs x1 y1 m t) ++ pr), nx, tab, subL n x0 :: subL x0 n :: subL m x1 :: subL x1 m :: fs)]
    | some (.ofNat 1) => some [(A, pr.filterMap (rw8 tab fs x1 y1 n s) ++ (pr.filterMap (rw8 tab fs x0 y0 m t) ++ pr), nx, tab, subL n x1 :: subL x1 n :: subL m x0 :: subL x0 m :: fs)]
    | _ => none)
  | none => none
theorem fOk_eq {ρ : Nat → Int} {fs : List Ln} {a b : Ln} (h : ev ρ a = ev ρ b) (hf : fOk ρ fs) : fOk ρ (subL a b :: subL b a :: fs) := fun q hq => by
  rcases List.mem_cons.mp hq with rfl | hq
  · rw [ev_sub]; omega
  · rcases List.mem_cons.mp hq with rfl | hq
    · rw [ev_sub]; omega
    · exact hf q hq
theorem fLo_ok : HFOk PPk fLo := by
  intro pc lv A pr nx tab fs L ρ clv cσ h hr hp
  unfold fLo at h
  split at h
  · rename_i al x0 y0 x1 y1 n s m t hl
    obtain ⟨p, hm, hi⟩ := List.exists_of_findSome?_eq_some hl
    have hi' := isLk_inv hi
    subst hi'
    have key : ∀ ρ', agr2 nx ρ ρ' → okLk _ _ _ _ _ _ _ _ _ := fun ρ' ha => lk_ok (hp ρ' ha) hm
    split at h
    · rename_i hc
      cases h
      have k0 : ∀ ρ', agr2 nx ρ ρ' → _ := fun ρ' ha => (key ρ' ha).1 (by rw [cst_ok (hr ρ' ha).1 hc]; rfl)
      refine ⟨_, List.mem_cons_self, hGood0 (fun ρ' ha => ⟨(hr ρ' ha).1, fOk_eq (k0 ρ' ha).1 (fOk_eq (k0 ρ' ha).2.2.1 (hr ρ' ha).2.1), (hr ρ' ha).2.2.2⟩) fun ρ' ha q hq => ?_⟩
      rcases List.mem_append.mp hq with hq | hq
      · exact rw8_ok (hr ρ' ha).1 (hr ρ' ha).2.1 (hp ρ' ha) (k0 ρ' ha).1 (k0 ρ' ha).2.1 q hq
      · rcases List.mem_append.mp hq with hq | hq
        · exact rw8_ok (hr ρ' ha).1 (hr ρ' ha).2.1 (hp ρ' ha) (k0 ρ' ha).2.2.1 (k0 ρ' ha).2.2.2 q hq
        · exact hp ρ' ha q hq
    · rename_i hc
      cases h
      have k0 : ∀ ρ', agr2 nx ρ ρ' → _ := fun ρ' ha => (key ρ' ha).2 (by rw [cst_ok (hr ρ' ha).1 hc]; rfl)
      refine ⟨_, List.mem_cons_self, hGood0 (fun ρ' ha => ⟨(hr ρ' ha).1, fOk_eq (k0 ρ' ha).1 (fOk_eq (k0 ρ' ha).2.2.1 (hr ρ' ha).2.1), (hr ρ' ha).2.2.2⟩) fun ρ' ha q hq => ?_⟩
      rcases List.mem_append.mp hq with hq | hq
      · exact rw8_ok (hr ρ' ha).1 (hr ρ' ha).2.1 (hp ρ' ha) (k0 ρ' ha).1 (k0 ρ' ha).2.1 q hq
      · rcases List.mem_append.mp hq with hq | hq
        · exact rw8_ok (hr ρ' ha).1 (hr ρ' ha).2.1 (hp ρ' ha) (k0 ρ' ha).2.2.1 (k0 ρ' ha).2.2.2 q hq
        · exact hp ρ' ha q hq
    · cases h
  · cases h
/-- said anew of the class's object in local 0: its plan (field fp; there the programs, field fg), its flight (field ff; there which one flies, field fa); a program's size in field 0, its rows from field 1 on -/
noncomputable def prgA (A : AH) (pr : List PD) (tab : Tb) (fs : List Ln) (o : Nat) : Option (Ln × Ln) := match A[o]?, rows4 A o 1 with
  | some (.inl (_, as)), some (a, b, c, d) => (match (as[0]? : Option AV) with
    | some (.inl (false, e)) => (match pr.findSome? (cp8 tab fs e a b c d 0 0 0 0) with
      | some (_, _, [_, t]) => some (e, t)
      | _ => none)
    | _ => none)
  | _, _ => none
noncomputable def lkA (fp fg ff fa : Nat) (lv : AL) (A : AH) (pr : List PD) (tab : Tb) (fs : List Ln) : Option (Ln × Ln × Ln × Ln × Ln) := match rowF lv A fp, rowF lv A ff with
  | some p, some f => (match A[p]?, A[f]? with
    | some (.inl (_, ap)), some (.inl (_, af)) => (match refAt ap fg, (af[fa]? : Option AV) with
      | some g, some (.inl (false, al)) => (match A[g]? with
        | some (.inr (_, .inr (.inr [some p0, some p1]))) => (match prgA A pr tab fs p0, prgA A pr tab fs p1 with
          | some (x0, y0), some (x1, y1) => some (al, x0, y0, x1, y1)
          | _, _ => none)
        | _ => none)
      | _, _ => none)
    | _, _ => none)
  | _, _ => none
noncomputable def fLc (fp fg ff fa : Nat) : HF := fun _ lv A pr nx tab fs => match lkA fp fg ff fa lv A pr tab fs with
  | some (al, x0, y0, x1, y1) => (match cst tab al with
    | some (.ofNat 0) => addsP [(13, [], [al, x0, y0, x1, y1, x0, y0, x1, y1])] A pr nx tab fs
    | some (.ofNat 1) => addsP [(13, [], [al, x0, y0, x1, y1, x1, y1, x0, y0])] A pr nx tab fs
    | _ => none)
  | none => none
theorem fLc_ok (fp fg ff fa : Nat) : HFOk PPk (fLc fp fg ff fa) := by
  intro pc lv A pr nx tab fs L ρ clv cσ h hr hp
  unfold fLc at h
  split at h
  · rename_i al x0 y0 x1 y1 _
    split at h
    · rename_i hc
      refine addsP_ok h (hrA hr) hp fun ρ' ha p hq => ?_
      rw [List.mem_singleton.mp hq]
      have e0 : ev ρ' al = 0 := by rw [cst_ok (hr ρ' ha).1 hc]; rfl
      exact (show PPn 13 [] [ev ρ' al, ev ρ' x0, ev ρ' y0, ev ρ' x1, ev ρ' y1, ev ρ' x0, ev ρ' y0, ev ρ' x1, ev ρ' y1] from ⟨rfl, fun _ => ⟨rfl, rfl, rfl, rfl⟩, fun e1 => (by omega)⟩)
    · rename_i hc
      refine addsP_ok h (hrA hr) hp fun ρ' ha p hq => ?_
      rw [List.mem_singleton.mp hq]
      have e0 : ev ρ' al = 1 := by rw [cst_ok (hr ρ' ha).1 hc]; rfl
      exact (show PPn 13 [] [ev ρ' al, ev ρ' x0, ev ρ' y0, ev ρ' x1, ev ρ' y1, ev ρ' x1, ev ρ' y1, ev ρ' x0, ev ρ' y0] from ⟨rfl, fun e1 => (by omega), fun _ => ⟨rfl, rfl, rfl, rfl⟩⟩)
    · cases h
  · cases h
/-- the other one flies now -/
noncomputable def fLf (ff fa : Nat) : HF := fun _ lv A pr nx tab fs => match rowF lv A ff, pr.findSome? isLk with
  | some f, some (al, x0, y0, x1, y1, n, s, m, t) => (match A[f]? with
    | some (.inl (_, af)) => (match (af[fa]? : Option AV) with
      | some (.inl (false, be)) => bif (bif eqL tab fs be (subL (kL (.ofNat 1)) al) then inF tab fs (.ofNat 0) (.ofNat 1) al else false) then addsP [(13, [], [be, x0, y0, x1, y1, m, t, n, s])] A pr nx tab fs else none
      | _ => none)
    | _ => none)
  | _, _ => none
theorem fLf_ok (ff fa : Nat) : HFOk PPk (fLf ff fa) := by
  intro pc lv A pr nx tab fs L ρ clv cσ h hr hp
  unfold fLf at h
  split at h
  · rename_i f al x0 y0 x1 y1 n s m t _ hl
    obtain ⟨p, hm, hi⟩ := List.exists_of_findSome?_eq_some hl
    have hi' := isLk_inv hi
    subst hi'
    split at h
    · split at h
      · rename_i be _
        cases z : (bif eqL tab fs be (subL (kL (.ofNat 1)) al) then inF tab fs (.ofNat 0) (.ofNat 1) al else false) with
        | false => rw [z] at h; cases h
        | true =>
          rw [z, cond_true] at h
          obtain ⟨z1, z2⟩ := cand z
          refine addsP_ok h (hrA hr) hp fun ρ' ha p hq => ?_
          rw [List.mem_singleton.mp hq]
          have e1 := eqL_ok (hr ρ' ha).1 (hr ρ' ha).2.1 z1
          rw [ev_sub, ev_k] at e1
          have e1' : ev ρ' be = 1 - ev ρ' al := e1
          have e2 := inF_ok (hr ρ' ha).1 (hr ρ' ha).2.1 z2
          have e2' : 0 ≤ ev ρ' al ∧ ev ρ' al ≤ 1 := e2
          have key := lk_ok (hp ρ' ha) hm
          exact (show PPn 13 [] [ev ρ' be, ev ρ' x0, ev ρ' y0, ev ρ' x1, ev ρ' y1, ev ρ' m, ev ρ' t, ev ρ' n, ev ρ' s] from ⟨rfl, fun e0 => (by
            obtain ⟨k1, k2, k3, k4⟩ := key.2 (by omega)
            exact ⟨k3, k4, k1, k2⟩), fun e0 => (by
            obtain ⟨k1, k2, k3, k4⟩ := key.1 (by omega)
            exact ⟨k3, k4, k1, k2⟩)⟩)
      · cases h
    · cases h
  · cases h
/-- one hint behind another -/
noncomputable def hThen (f g : HF) : HF := fun pc lv A pr nx tab fs => match f pc lv A pr nx tab fs with
  | some [(A1, pr1, nx1, tab1, fs1)] => (match g pc lv A1 pr1 nx1 tab1 fs1 with
    | some L => some L
    | none => some [(A1, pr1, nx1, tab1, fs1)])
  | r => r
theorem hThen_ok {f g : HF} (hf : HFOk PPk f) (hg : HFOk PPk g) : HFOk PPk (hThen f g) := by
  intro pc lv A pr nx tab fs L ρ clv cσ h hr hp
  unfold hThen at h
  split at h
  · rename_i A1 pr1 nx1 tab1 fs1 h1
    obtain ⟨q, hq, ρ1, q1, q2, q3, q4⟩ := hf pc lv A pr nx tab fs _ ρ clv cσ h1 hr hp
    rw [List.mem_singleton.mp hq] at q1 q3 q4
    try dsimp only at q1 q3 q4
    have hag : ∀ {ρ'}, agr2 nx1 ρ1 ρ' → agr2 nx ρ ρ' := fun {ρ'} ha i hi => (ha i (by omega)).trans (q2 i hi)
    split at h
    · rename_i L2 h2
      cases h
      obtain ⟨u, hu, ρ2, u1, u2, u3, u4⟩ := hg pc lv A1 pr1 nx1 tab1 fs1 _ ρ1 clv cσ h2 (fun ρ' ha => ⟨(q3 ρ' ha).1, (q3 ρ' ha).2.1, (hr ρ' (hag ha)).2.2.1, (q3 ρ' ha).2.2⟩) q4
      exact ⟨u, hu, ρ2, Nat.le_trans q1 u1, fun i hi => (u2 i (by omega)).trans (q2 i hi), u3, u4⟩
    · cases h
      exact ⟨_, List.mem_singleton.mpr rfl, ρ1, q1, q2, q3, q4⟩
  · rename_i r _
    exact hf pc lv A pr nx tab fs L ρ clv cσ h hr hp
/-- sums of two facts -/
noncomputable def sumFs (fs gs : List Ln) : List Ln := fs.flatMap (fun f => (gs.filter (fun g => shT f.2 g.2)).map (fun g => addL f g))
theorem sumFs_ok {ρ : Nat → Int} {fs gs : List Ln} (h1 : fOk ρ fs) (h2 : fOk ρ gs) : fOk ρ (sumFs fs gs) := fun q hq => by
  obtain ⟨f, hf, hq⟩ := List.mem_flatMap.mp hq
  obtain ⟨g, hg, rfl⟩ := List.mem_map.mp hq
  have a := h1 f hf
  have b := h2 g (List.mem_filter.mp hg).1
  rw [ev_add]
  omega
noncomputable def fSm : HF := fun _ _ A pr nx tab fs => some [(A, pr, nx, tab, sumFs fs fs ++ fs)]
theorem fSm_ok : HFOk PPk fSm := by
  intro pc lv A pr nx tab fs L ρ clv cσ h hr hp
  cases h
  refine ⟨_, List.mem_cons_self, hGood0 (fun ρ' ha => ⟨(hr ρ' ha).1, fun q hq => ?_, (hr ρ' ha).2.2.2⟩) hp⟩
  rcases List.mem_append.mp hq with hq | hq
  · exact sumFs_ok (hr ρ' ha).2.1 (hr ρ' ha).2.1 q hq
  · exact (hr ρ' ha).2.1 q hq
/-! ===== hints: whether four numbers are a step ===== -/
noncomputable def outF (tab : Tb) (fs : List Ln) (lo hi : Int) (e : Ln) : Bool := bif le0 tab fs (pluL e (Int.add (Int.neg lo) 1)) then true else le0 tab fs (subL (kL (Int.add hi 1)) e)
theorem outF_ok {ρ : Nat → Int} {tab : Tb} {fs : List Ln} (ht : tOk ρ tab) (hf : fOk ρ fs) {lo hi : Int} {e : Ln} (h : outF tab fs lo hi e = true) : ev ρ e < lo ∨ hi < ev ρ e := by
  unfold outF at h
  cases z : le0 tab fs (pluL e (Int.add (Int.neg lo) 1)) with
  | true =>
    have h1 := le0_ok ht hf z
    rw [ev_plu] at h1
    have e1 : Int.add (Int.neg lo) 1 = - lo + 1 := rfl
    rw [e1] at h1
    exact Or.inl (by omega)
  | false =>
    rw [z, cond_false] at h
    have h1 := le0_ok ht hf h
    rw [ev_sub, ev_k] at h1
    have e1 : Int.add hi 1 = hi + 1 := rfl
    rw [e1] at h1
    exact Or.inr (by omega)
noncomputable def isV1 (tab : Tb) (fs : List Ln) (lo hi : Int) (b : Ln) : Option Bool := bif outF tab fs lo hi b then some false else bif inF tab fs lo hi b then some true else none
theorem isV1_ok {ρ : Nat → Int} {tab : Tb} {fs : List Ln} (ht : tOk ρ tab) (hf : fOk ρ fs) {lo hi : Int} {b : Ln} {v : Bool} (h : isV1 tab fs lo hi b = some v) : v = true ↔ (lo ≤ ev ρ b ∧ ev ρ b ≤ hi) := by
  unfold isV1 at h
  cases z : outF tab fs lo hi b with
  | true =>
    rw [z] at h
    cases h
    have := outF_ok ht hf z
    exact ⟨fun h => (by cases h), fun h => (by omega)⟩
  | false =>
    rw [z, cond_false] at h
    cases w : inF tab fs lo hi b with
    | false => rw [w] at h; cases h
    | true =>
      rw [w] at h
      cases h
      have := inF_ok ht hf w
      exact ⟨fun _ => this, fun _ => rfl⟩
noncomputable def isAnd (x y : Option Bool) : Option Bool := match x, y with
  | some false, _ => some false
  | _, some false => some false
  | some true, some true => some true
  | _, _ => none
theorem isAnd_ok {x y : Option Bool} {v : Bool} {p q : Prop} (h : isAnd x y = some v) (hx : ∀ u, x = some u → (u = true ↔ p)) (hy : ∀ u, y = some u → (u = true ↔ q)) : v = true ↔ (p ∧ q) := by
  unfold isAnd at h
  split at h
  · cases h
    have := hx false rfl
    exact ⟨fun h => (by cases h), fun h => this.mpr h.1⟩
  · cases h
    have := hy false rfl
    exact ⟨fun h => (by cases h), fun h => this.mpr h.2⟩
  · cases h
    exact ⟨fun _ => ⟨(hx true rfl).mp rfl, (hy true rfl).mp rfl⟩, fun _ => rfl⟩
  · cases h
noncomputable def isV3 (tab : Tb) (fs : List Ln) (act b c : Ln) : Option Bool := bif inF tab fs (.ofNat 0) (.ofNat 0) act then some true else bif inF tab fs (.ofNat 1) (.ofNat 6) act then isAnd (isV1 tab fs (.ofNat 0) (.ofNat 11) b) (isV1 tab fs (.ofNat 0) (.ofNat 11) c) else bif (bif inF tab fs (.ofNat 7) (.ofNat 7) act then true else inF tab fs (.ofNat 10) (.ofNat 10) act) then isV1 tab fs (.ofNat 1) (.ofNat 20) b else bif inF tab fs (.ofNat 8) (.ofNat 8) act then isV1 tab fs (.ofNat 0) (.ofNat 1) b else bif inF tab fs (.ofNat 9) (.ofNat 9) act then isV1 tab fs (.ofNat 0) (.ofNat 7) b else none
theorem inF_ofN {ρ : Nat → Int} {tab : Tb} {fs : List Ln} (ht : tOk ρ tab) (hf : fOk ρ fs) {lo hi : Nat} {e : Ln} (h : inF tab fs (.ofNat lo) (.ofNat hi) e = true) : (lo : Int) ≤ ev ρ e ∧ ev ρ e ≤ (hi : Int) := inF_ok ht hf h
theorem isV3_ok {ρ : Nat → Int} {tab : Tb} {fs : List Ln} (ht : tOk ρ tab) (hf : fOk ρ fs) {act b c : Ln} {v : Bool} (h : isV3 tab fs act b c = some v) : v = true ↔ (ev ρ act = 0 ∨ ((1 ≤ ev ρ act ∧ ev ρ act ≤ 6) ∧ (0 ≤ ev ρ b ∧ ev ρ b ≤ 11) ∧ (0 ≤ ev ρ c ∧ ev ρ c ≤ 11)) ∨ ((ev ρ act = 7 ∨ ev ρ act = 10) ∧ (1 ≤ ev ρ b ∧ ev ρ b ≤ 20)) ∨ (ev ρ act = 8 ∧ (0 ≤ ev ρ b ∧ ev ρ b ≤ 1)) ∨ (ev ρ act = 9 ∧ (0 ≤ ev ρ b ∧ ev ρ b ≤ 7))) := by
  unfold isV3 at h
  cases z0 : inF tab fs (.ofNat 0) (.ofNat 0) act with
  | true =>
    rw [z0] at h
    cases h
    have := inF_ofN ht hf z0
    exact ⟨fun _ => Or.inl (by omega), fun _ => rfl⟩
  | false =>
    rw [z0, cond_false] at h
    cases z1 : inF tab fs (.ofNat 1) (.ofNat 6) act with
    | true =>
      rw [z1, cond_true] at h
      have h1 := inF_ofN ht hf z1
      have h2 := isAnd_ok h (fun u hu => isV1_ok ht hf hu) (fun u hu => isV1_ok ht hf hu)
      have e0 : (Int.ofNat 0) = 0 := rfl
      have e1 : (Int.ofNat 11) = 11 := rfl
      rw [e0, e1] at h2
      rw [h2]
      constructor
      · intro h3
        exact Or.inr (Or.inl ⟨by omega, h3⟩)
      · intro h3
        rcases h3 with h3 | h3 | h3 | h3 | h3
        · omega
        · exact h3.2
        · omega
        · omega
        · omega
    | false =>
      rw [z1, cond_false] at h
      cases z2 : (bif inF tab fs (.ofNat 7) (.ofNat 7) act then true else inF tab fs (.ofNat 10) (.ofNat 10) act) with
      | true =>
        rw [z2, cond_true] at h
        have h1 : ev ρ act = 7 ∨ ev ρ act = 10 := by
          cases z3 : inF tab fs (.ofNat 7) (.ofNat 7) act with
          | true => have := inF_ofN ht hf z3; exact Or.inl (by omega)
          | false =>
            rw [z3, cond_false] at z2
            have := inF_ofN ht hf z2
            exact Or.inr (by omega)
        have h2 := isV1_ok ht hf h
        have e0 : (Int.ofNat 1) = 1 := rfl
        have e1 : (Int.ofNat 20) = 20 := rfl
        rw [e0, e1] at h2
        rw [h2]
        constructor
        · intro h3
          exact Or.inr (Or.inr (Or.inl ⟨h1, h3⟩))
        · intro h3
          rcases h3 with h3 | h3 | h3 | h3 | h3
          · omega
          · omega
          · exact h3.2
          · omega
          · omega
      | false =>
        rw [z2, cond_false] at h
        cases z4 : inF tab fs (.ofNat 8) (.ofNat 8) act with
        | true =>
          rw [z4, cond_true] at h
          have h1 := inF_ofN ht hf z4
          have h2 := isV1_ok ht hf h
          have e0 : (Int.ofNat 0) = 0 := rfl
          have e1 : (Int.ofNat 1) = 1 := rfl
          rw [e0, e1] at h2
          rw [h2]
          constructor
          · intro h3
            exact Or.inr (Or.inr (Or.inr (Or.inl ⟨by omega, h3⟩)))
          · intro h3
            rcases h3 with h3 | h3 | h3 | h3 | h3
            · omega
            · omega
            · omega
            · exact h3.2
            · omega
        | false =>
          rw [z4, cond_false] at h
          cases z5 : inF tab fs (.ofNat 9) (.ofNat 9) act with
          | false => rw [z5] at h; cases h
          | true =>
            rw [z5, cond_true] at h
            have h1 := inF_ofN ht hf z5
            have h2 := isV1_ok ht hf h
            have e0 : (Int.ofNat 0) = 0 := rfl
            have e1 : (Int.ofNat 7) = 7 := rfl
            rw [e0, e1] at h2
            rw [h2]
            constructor
            · intro h3
              exact Or.inr (Or.inr (Or.inr (Or.inr ⟨by omega, h3⟩)))
            · intro h3
              rcases h3 with h3 | h3 | h3 | h3 | h3
              · omega
              · omega
              · omega
              · omega
              · exact h3.2
noncomputable def isVal (tab : Tb) (fs : List Ln) (act a b c : Ln) : Option Bool := isAnd (isAnd (isV1 tab fs (.ofNat 0) (.ofNat 10) act) (isV1 tab fs (.ofNat 0) (.ofNat 11) a)) (isV3 tab fs act b c)
theorem isVal_ok {ρ : Nat → Int} {tab : Tb} {fs : List Ln} (ht : tOk ρ tab) (hf : fOk ρ fs) {act a b c : Ln} {v : Bool} (h : isVal tab fs act a b c = some v) : isF (ev ρ act) (ev ρ a) (ev ρ b) (ev ρ c) = if v then 1 else 0 := by
  unfold isVal at h
  have h1 := isAnd_ok h (fun u hu => isAnd_ok hu (fun u hu => isV1_ok ht hf hu) (fun u hu => isV1_ok ht hf hu)) (fun u hu => isV3_ok ht hf hu)
  have e0 : (Int.ofNat 0) = 0 := rfl
  have e1 : (Int.ofNat 10) = 10 := rfl
  have e2 : (Int.ofNat 11) = 11 := rfl
  rw [e0, e1, e2] at h1
  unfold isF
  cases v with
  | true =>
    rw [if_pos ⟨(h1.mp rfl).1.1, (h1.mp rfl).1.2, (h1.mp rfl).2⟩]
    rfl
  | false =>
    rw [if_neg fun h2 => absurd (h1.mpr ⟨⟨h2.1, h2.2.1⟩, h2.2.2⟩) Bool.false_ne_true]
    rfl
noncomputable def f12 (tab : Tb) (fs : List Ln) (act a b c : Ln) (p : PD) : Option Ln := match p.2.1, p.2.2 with
  | [], [w, x, y, z, r] => bif Nat.beq p.1 12 then (bif (bif eqL tab fs w act then (bif eqL tab fs x a then (bif eqL tab fs y b then eqL tab fs z c else false) else false) else false) then some r else none) else none
  | _, _ => none
theorem f12_ok {ρ : Nat → Int} {tab : Tb} {fs : List Ln} {cσ : SH} {pr : List PD} {act a b c r : Ln} {p : PD} (ht : tOk ρ tab) (hf : fOk ρ fs) (hp : prOk PPk ρ cσ pr) (hm : p ∈ pr) (h : f12 tab fs act a b c p = some r) : ev ρ r = isF (ev ρ act) (ev ρ a) (ev ρ b) (ev ρ c) := by
  unfold f12 at h
  split at h
  · rename_i w x y z r' h1 h2
    obtain ⟨k0, l0, ns0⟩ := p
    try dsimp only at h1 h2 h
    subst h1; subst h2
    cases z0 : Nat.beq k0 12 with
    | false => rw [z0] at h; cases h
    | true =>
      rw [z0, cond_true] at h
      have ek := Nat.eq_of_beq_eq_true z0
      subst ek
      cases zz : (bif eqL tab fs w act then (bif eqL tab fs x a then (bif eqL tab fs y b then eqL tab fs z c else false) else false) else false) with
      | false => rw [zz] at h; cases h
      | true =>
        rw [zz] at h
        cases h
        obtain ⟨y1, zz⟩ := cand zz
        obtain ⟨y2, zz⟩ := cand zz
        obtain ⟨y3, y4⟩ := cand zz
        have h3 : ev ρ r = isF (ev ρ w) (ev ρ x) (ev ρ y) (ev ρ z) := (show PPn 12 [] [ev ρ w, ev ρ x, ev ρ y, ev ρ z, ev ρ r] from hp _ hm).2
        rw [h3, eqL_ok ht hf y1, eqL_ok ht hf y2, eqL_ok ht hf y3, eqL_ok ht hf y4]
  · cases h
noncomputable def fIsF (l0 l1 l2 l3 : Nat) : HF := fun _ lv A pr nx tab fs => match alGet l0 lv, alGet l1 lv, alGet l2 lv, alGet l3 lv with
  | some (.inl (false, act)), some (.inl (false, a)), some (.inl (false, b)), some (.inl (false, c)) => (match isVal tab fs act a b c with
    | some v => (match pr.findSome? (f12 tab fs act a b c) with
      | some r => (match cst tab r with
        | some k => bif eqI k (bif v then .ofNat 1 else .ofNat 0) then none else some []
        | none => none)
      | none => addsP [(12, [], [act, a, b, c, kL (bif v then .ofNat 1 else .ofNat 0)])] A pr nx tab fs)
    | none => none)
  | _, _, _, _ => none
theorem fIsF_ok (l0 l1 l2 l3 : Nat) : HFOk PPk (fIsF l0 l1 l2 l3) := by
  intro pc lv A pr nx tab fs L ρ clv cσ h hr hp
  unfold fIsF at h
  split at h
  · rename_i act a b c _ _ _ _
    split at h
    · rename_i v hv
      have hb : (bif v then (.ofNat 1 : Int) else .ofNat 0) = if v then 1 else 0 := by cases v <;> rfl
      split at h
      · rename_i r hr1
        split at h
        · rename_i k hk
          cases z : eqI k (bif v then .ofNat 1 else .ofNat 0) with
          | true => rw [z] at h; cases h
          | false =>
            exfalso
            obtain ⟨p, hm, hf⟩ := List.exists_of_findSome?_eq_some hr1
            obtain ⟨t1, t2, -, -⟩ := hr ρ agr2.rf
            have h1 := f12_ok t1 t2 (hp ρ agr2.rf) hm hf
            rw [isVal_ok t1 t2 hv, cst_ok t1 hk, ← hb] at h1
            rw [h1] at z
            cases v <;> cases z
        · cases h
      · refine addsP_ok h (hrA hr) hp fun ρ' ha p hq => ?_
        rw [List.mem_singleton.mp hq]
        refine (show PPn 12 [] [ev ρ' act, ev ρ' a, ev ρ' b, ev ρ' c, ev ρ' (kL (bif v then .ofNat 1 else .ofNat 0))] from ⟨rfl, ?_⟩)
        rw [ev_k, hb, isVal_ok (hr ρ' ha).1 (hr ρ' ha).2.1 hv]
    · cases h
  · cases h
theorem isF_rec {act a b c : Int} (h : isF act a b c = 1) : okRec act a b c := by
  unfold isF at h
  split at h
  · rename_i q
    obtain ⟨q1, q2, q3⟩ := q
    refine ⟨q1, q2, fun h1 h2 => ?_, fun h1 => ?_, fun h1 => ?_⟩
    · rcases q3 with q3 | q3 | q3 | q3 | q3
      · omega
      · exact q3.2
      · omega
      · omega
      · omega
    · rcases q3 with q3 | q3 | q3 | q3 | q3
      · omega
      · omega
      · omega
      · exact q3.2
      · omega
    · rcases q3 with q3 | q3 | q3 | q3 | q3
      · omega
      · omega
      · omega
      · omega
      · exact q3.2
  · cases h
/-- a record left out is a step again -/
noncomputable def ci01 (A : AH) (pr : List PD) (tab : Tb) (fs : List Ln) (p : PD) : Option PD := match p.2.1, p.2.2 with
  | [t, a, b, c], [] => bif (bif Nat.ble 1000 p.1 then Nat.blt p.1 2000 else false) then (match elA A t (Nat.sub p.1 1000), elA A a (Nat.sub p.1 1000), elA A b (Nat.sub p.1 1000), elA A c (Nat.sub p.1 1000) with
    | some w, some x, some y, some z => (match pr.findSome? (f12 tab fs w x y z) with
      | some r => (match cst tab r with
        | some (.ofNat 1) => some (0, [t, a, b, c], [])
        | _ => none)
      | none => none)
    | _, _, _, _ => none) else none
  | [q], [] => bif Nat.ble 2000 p.1 then (match elA A q (Nat.add 200 (Nat.mul 4 (Nat.sub p.1 2000))), elA A q (Nat.add 201 (Nat.mul 4 (Nat.sub p.1 2000))), elA A q (Nat.add 202 (Nat.mul 4 (Nat.sub p.1 2000))), elA A q (Nat.add 203 (Nat.mul 4 (Nat.sub p.1 2000))) with
    | some w, some x, some y, some z => (match pr.findSome? (f12 tab fs w x y z) with
      | some r => (match cst tab r with
        | some (.ofNat 1) => some (1, [q], [])
        | _ => none)
      | none => none)
    | _, _, _, _ => none) else none
  | _, _ => none
theorem ci01_ok {ρ : Nat → Int} {cσ : SH} {A : AH} {tab : Tb} {fs : List Ln} {pr : List PD} (ht : tOk ρ tab) (hf : fOk ρ fs) (hA : rel2 (crel ρ) cσ A) (hp : prOk PPk ρ cσ pr) : prOk PPk ρ cσ (pr.filterMap (ci01 A pr tab fs)) := fun p hq => by
  obtain ⟨p0, hm, hq⟩ := List.mem_filterMap.mp hq
  unfold ci01 at hq
  split at hq
  · rename_i t a b c h1 h2
    obtain ⟨k0, l0, ns0⟩ := p0
    try dsimp only at h1 h2 hq
    subst h1; subst h2
    cases z0 : (bif Nat.ble 1000 k0 then Nat.blt k0 2000 else false) with
    | false => rw [z0] at hq; cases hq
    | true =>
      rw [z0, cond_true] at hq
      obtain ⟨z1, z2⟩ := cand z0
      have k1 := Nat.le_of_ble_eq_true z1
      have k2 := blt_iff.mp z2
      split at hq
      · rename_i w x y z hw hx hy hz
        split at hq
        · rename_i r hr1
          split at hq
          · rename_i hc
            cases hq
            obtain ⟨pp, hm2, hf2⟩ := List.exists_of_findSome?_eq_some hr1
            have h3 := f12_ok ht hf hp hm2 hf2
            rw [cst_ok ht hc] at h3
            obtain ⟨-, w2⟩ := elA_ok hA hw
            obtain ⟨-, x2⟩ := elA_ok hA hx
            obtain ⟨-, y2⟩ := elA_ok hA hy
            obtain ⟨-, u2⟩ := elA_ok hA hz
            obtain ⟨v, rfl⟩ : ∃ v, k0 = v + 1000 := ⟨k0 - 1000, by omega⟩
            have hP : (1000 ≤ v + 1000 ∧ v + 1000 < 2000) ∧ okProgB (v + 1000 - 1000) _ _ _ _ := (show PPo (v + 1000) [_, _, _, _] from hp _ hm)
            refine (show okProg _ _ _ _ from ⟨hP.2.1, fun i hi => ?_⟩)
            rcases Nat.decEq i (v + 1000 - 1000) with hne | he
            · exact hP.2.2 i hi hne
            · rw [he]
              have e1 : Nat.sub (v + 1000) 1000 = v + 1000 - 1000 := rfl
              rw [e1] at w2 x2 y2 u2
              rw [w2, x2, y2, u2]
              exact isF_rec h3.symm
          · cases hq
        · cases hq
      · cases hq
  · rename_i q h1 h2
    obtain ⟨k0, l0, ns0⟩ := p0
    try dsimp only at h1 h2 hq
    subst h1; subst h2
    cases z0 : Nat.ble 2000 k0 with
    | false => rw [z0] at hq; cases hq
    | true =>
      rw [z0, cond_true] at hq
      have k1 := Nat.le_of_ble_eq_true z0
      split at hq
      · rename_i w x y z hw hx hy hz
        split at hq
        · rename_i r hr1
          split at hq
          · rename_i hc
            cases hq
            obtain ⟨pp, hm2, hf2⟩ := List.exists_of_findSome?_eq_some hr1
            have h3 := f12_ok ht hf hp hm2 hf2
            rw [cst_ok ht hc] at h3
            obtain ⟨-, w2⟩ := elA_ok hA hw
            obtain ⟨-, x2⟩ := elA_ok hA hx
            obtain ⟨-, y2⟩ := elA_ok hA hy
            obtain ⟨-, u2⟩ := elA_ok hA hz
            obtain ⟨v, rfl⟩ : ∃ v, k0 = v + 1000 + 1000 := ⟨k0 - 2000, by omega⟩
            have hP : 2000 ≤ v + 1000 + 1000 ∧ okStepsB (v + 1000 + 1000 - 2000) _ := (show (2000 ≤ v + 1000 + 1000 ∧ okStepsB (v + 1000 + 1000 - 2000) _) ∨ ((600 ≤ v + 1000 + 1000 ∧ v + 1000 + 1000 < 1000) ∧ okHarmB (v + 1000 + 1000 - 600) _) from hp _ hm).elim id (fun hx => absurd hx.1.2 (by omega))
            refine (show okSteps _ from ⟨hP.2.1, fun i hi => ?_⟩)
            rcases Nat.decEq i (v + 1000 + 1000 - 2000) with hne | he
            · exact hP.2.2 i hi hne
            · rw [he]
              have e1 : Nat.sub (v + 1000 + 1000) 2000 = v + 1000 + 1000 - 2000 := rfl
              rw [e1] at w2 x2 y2 u2
              rw [show gI (arrI (cσ.getD q (.inl (0, [])))) (200 + 4 * (v + 1000 + 1000 - 2000)) = ev ρ w from w2, show gI (arrI (cσ.getD q (.inl (0, [])))) (201 + 4 * (v + 1000 + 1000 - 2000)) = ev ρ x from x2, show gI (arrI (cσ.getD q (.inl (0, [])))) (202 + 4 * (v + 1000 + 1000 - 2000)) = ev ρ y from y2, show gI (arrI (cσ.getD q (.inl (0, [])))) (203 + 4 * (v + 1000 + 1000 - 2000)) = ev ρ z from u2]
              exact isF_rec h3.symm
          · cases hq
        · cases hq
      · cases hq
  · cases hq
noncomputable def fCi : HF := fun _ _ A pr nx tab fs => addsP (pr.filterMap (ci01 A pr tab fs)) A pr nx tab fs
theorem fCi_ok : HFOk PPk fCi := by
  intro pc lv A pr nx tab fs L ρ clv cσ h hr hp
  exact addsP_ok h (hrA hr) hp fun ρ' ha => ci01_ok (hr ρ' ha).1 (hr ρ' ha).2.1 (hr ρ' ha).2.2.2 (hp ρ' ha)
