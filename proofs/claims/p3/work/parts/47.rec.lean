/-! ===== a step at a place that isn't told: its act case by case, its numbers by name ===== -/
noncomputable def recN (q1 q2 q3 q4 : Nat) (e1 e2 e3 e4 : Ln) (A : AH) (pr : List PD) (nx : Nat) (tab : Tb) (fs : List Ln) (n : Nat) : HR := (A, (7, [q1], [e1, kL (.ofNat n)]) :: (7, [q2], [e2, sL nx]) :: (7, [q3], [e3, sL (Nat.add nx 1)]) :: (7, [q4], [e4, sL (Nat.add nx 2)]) :: pr, Nat.add nx 3, tbIns (Nat.add nx 2) (rgC n).1 (rgC n).2 (tbIns (Nat.add nx 1) (rgB n).1 (rgB n).2 (tbIns nx (.ofNat 0) (.ofNat 11) tab)), fs)
noncomputable def recL (q1 q2 q3 q4 : Nat) (e1 e2 e3 e4 : Ln) (A : AH) (pr : List PD) (nx : Nat) (tab : Tb) (fs : List Ln) : List HR := (List.range 11).map (recN q1 q2 q3 q4 e1 e2 e3 e4 A pr nx tab fs)
section REC
variable {nx : Nat} {tab : Tb} {fs : List Ln} {A : AH} {pr : List PD} {ρ : Nat → Int} {cσ : SH}
theorem pr_7 {q i : Nat} {e v : Ln} {ρ : Nat → Int} {pr : List PD} (h : prOk PPk ρ cσ pr) (h1 : ev ρ e = i) (h2 : gI (arrI (cσ.getD q (.inl (0, [])))) i = ev ρ v) : prOk PPk ρ cσ ((7, [q], [e, v]) :: pr) :=
  List.forall_mem_cons.mpr ⟨show PPn 7 [arrI (cσ.getD q (.inl (0, [])))] [ev ρ e, ev ρ v] from Or.inr ⟨rfl, i, h1, h2⟩, h⟩
theorem recL_ok {q1 q2 q3 q4 : Nat} {e1 e2 e3 e4 : Ln} {i1 i2 i3 i4 : Nat} (hr : ∀ ρ', agr2 nx ρ ρ' → tOk ρ' tab ∧ fOk ρ' fs ∧ rel2 (crel ρ') cσ A) (hp : ∀ ρ', agr2 nx ρ ρ' → prOk PPk ρ' cσ pr) (he : ∀ ρ', agr2 nx ρ ρ' → (ev ρ' e1 = i1 ∧ ev ρ' e2 = i2) ∧ ev ρ' e3 = i3 ∧ ev ρ' e4 = i4) (h : okRec (gI (arrI (cσ.getD q1 (.inl (0, [])))) i1) (gI (arrI (cσ.getD q2 (.inl (0, [])))) i2) (gI (arrI (cσ.getD q3 (.inl (0, [])))) i3) (gI (arrI (cσ.getD q4 (.inl (0, [])))) i4)) : ∃ Q ∈ recL q1 q2 q3 q4 e1 e2 e3 e4 A pr nx tab fs, HGood ρ nx cσ Q := by
  obtain ⟨n, hn⟩ : ∃ n : Nat, gI (arrI (cσ.getD q1 (.inl (0, [])))) i1 = n := ⟨(gI (arrI (cσ.getD q1 (.inl (0, [])))) i1).toNat, by have := h.1.1; omega⟩
  have hle := h.1.2
  have hb := rgB_ok h hn (gI_32 _ _)
  have hc := rgC_ok h hn (gI_32 _ _)
  have ha := h.2.1
  generalize hva : gI (arrI (cσ.getD q2 (.inl (0, [])))) i2 = va at ha
  generalize hvb : gI (arrI (cσ.getD q3 (.inl (0, [])))) i3 = vb at hb
  generalize hvc : gI (arrI (cσ.getD q4 (.inl (0, [])))) i4 = vc at hc
  refine ⟨_, List.mem_map.mpr ⟨n, List.mem_range.mpr (by omega), rfl⟩, fun j => if j = nx then va else if j = nx + 1 then vb else if j = nx + 2 then vc else ρ j, ?_, ?_, ?_, ?_⟩
  · show nx ≤ nx + 3
    omega
  · intro i hi
    show (if i = nx then va else if i = nx + 1 then vb else if i = nx + 2 then vc else ρ i) = ρ i
    rw [if_neg (by omega), if_neg (by omega), if_neg (by omega)]
  all_goals
    intro ρ' hag
    have hag' : agr2 nx ρ ρ' := fun i hi => by
      have h1 := hag i (show i < nx + 3 by omega)
      rw [h1]
      show (if i = nx then va else if i = nx + 1 then vb else if i = nx + 2 then vc else ρ i) = ρ i
      rw [if_neg (by omega), if_neg (by omega), if_neg (by omega)]
    have w0 : ρ' nx = va := (hag nx (show nx < nx + 3 by omega)).trans (if_pos rfl)
    have w1 : ρ' (nx + 1) = vb := (hag (nx + 1) (show nx + 1 < nx + 3 by omega)).trans (by
      show (if nx + 1 = nx then va else if nx + 1 = nx + 1 then vb else if nx + 1 = nx + 2 then vc else ρ (nx + 1)) = vb
      rw [if_neg (by omega), if_pos rfl])
    have w2 : ρ' (nx + 2) = vc := (hag (nx + 2) (show nx + 2 < nx + 3 by omega)).trans (by
      show (if nx + 2 = nx then va else if nx + 2 = nx + 1 then vb else if nx + 2 = nx + 2 then vc else ρ (nx + 2)) = vc
      rw [if_neg (by omega), if_neg (by omega), if_pos rfl])
    obtain ⟨t1, t2, t3⟩ := hr ρ' hag'
    obtain ⟨⟨g1, g2⟩, g3, g4⟩ := he ρ' hag'
  · refine ⟨tOk_cons (tOk_cons (tOk_cons t1 ?_ ?_) ?_ ?_) ?_ ?_, t2, t3⟩
    · show (0 : Int) ≤ ρ' nx; rw [w0]; exact ha.1
    · show ρ' nx ≤ (11 : Int); rw [w0]; exact ha.2
    · show _ ≤ ρ' (nx + 1); rw [w1]; exact hb.1
    · show ρ' (nx + 1) ≤ _; rw [w1]; exact hb.2
    · show _ ≤ ρ' (nx + 2); rw [w2]; exact hc.1
    · show ρ' (nx + 2) ≤ _; rw [w2]; exact hc.2
  · refine pr_7 (pr_7 (pr_7 (pr_7 (hp ρ' hag') g4 ?_) g3 ?_) g2 ?_) g1 ?_
    · rw [hvc, ev_s]; exact w2.symm
    · rw [hvb, ev_s]; exact w1.symm
    · rw [hva, ev_s]; exact w0.symm
    · rw [hn, ev_k]; rfl
end REC
/-- of the model's row; the number of the step stands in a local -/
noncomputable def fRec (loc : Nat) : HF := fun _ lv A pr nx tab fs => match srcV loc lv A with
  | some (.inl (false, e)) => bif (bif scL nx e then inF tab fs 0 (.ofNat 119) e else false) then (match pr.find? (fun p => Nat.beq p.1 1) with
    | some (_, [q], []) => some (recL q q q q (pluL (sclL (.ofNat 4) e) (.ofNat 200)) (pluL (sclL (.ofNat 4) e) (.ofNat 201)) (pluL (sclL (.ofNat 4) e) (.ofNat 202)) (pluL (sclL (.ofNat 4) e) (.ofNat 203)) A pr nx tab fs)
    | _ => none) else none
  | _ => none
theorem fRec_ok (loc : Nat) : HFOk PPk (fRec loc) := by
  intro pc lv A pr nx tab fs L ρ clv cσ h hr hp
  have hr' : ∀ ρ', agr2 nx ρ ρ' → tOk ρ' tab ∧ fOk ρ' fs ∧ rel2 (crel ρ') cσ A := fun ρ' ha => ⟨(hr ρ' ha).1, (hr ρ' ha).2.1, (hr ρ' ha).2.2.2⟩
  unfold fRec at h
  split at h
  · rename_i e he
    cases hz : (bif scL nx e then inF tab fs 0 (.ofNat 119) e else false) with
    | false => rw [hz] at h; cases h
    | true =>
      rw [hz, cond_true] at h
      obtain ⟨hsc, hz⟩ := cand hz
      split at h
      · rename_i kk q hf
        cases h
        have hm := List.mem_of_find?_eq_some hf
        have hk0 := List.find?_some (p := fun p : PD => Nat.beq p.1 1) hf
        have hk := Nat.eq_of_beq_eq_true hk0
        try dsimp only at hk
        subst hk
        have hP : okSteps _ := hp ρ agr2.rf _ hm
        have hin := inF_ok (hr ρ agr2.rf).1 (hr ρ agr2.rf).2.1 hz
        have e119 : (Int.ofNat 119) = 119 := rfl
        obtain ⟨i, hi⟩ : ∃ i : Nat, ev ρ e = i := ⟨(ev ρ e).toNat, by omega⟩
        have hE : ∀ ρ', agr2 nx ρ ρ' → ∀ c : Nat, ev ρ' (pluL (sclL (.ofNat 4) e) (.ofNat c)) = ((c + 4 * i : Nat) : Int) := fun ρ' ha c => by
          rw [ev_plu, ev_scl, scL_ev ha hsc, hi]
          show (4 : Int) * (i : Int) + (c : Int) = ((c + 4 * i : Nat) : Int)
          omega
        exact recL_ok hr' hp (fun ρ' ha => ⟨⟨hE ρ' ha 200, hE ρ' ha 201⟩, hE ρ' ha 202, hE ρ' ha 203⟩) (hP.2 i (by omega))
      · cases h
  · cases h
/-- of the program of the class that a local's object holds -/
noncomputable def fRecO (loc obj f : Nat) : HF := fun _ lv A pr nx tab fs => match srcV loc lv A, alGet obj lv with
  | some (.inl (false, e)), some (.inr (.inl (some o))) => (match A[o]? with
    | some (.inl (_, as)) => (match refAt as f, refAt as (Nat.succ f), refAt as (Nat.succ (Nat.succ f)), refAt as (Nat.succ (Nat.succ (Nat.succ f))) with
      | some t, some a, some b, some c => bif (bif (bif scL nx e then inF tab fs 0 (.ofNat 59) e else false) then pr.any (fun p => decide (p = (0, [t, a, b, c], []))) else false) then some (recL t a b c e e e e A pr nx tab fs) else none
      | _, _, _, _ => none)
    | _ => none)
  | _, _ => none
theorem fRecO_ok (loc obj f : Nat) : HFOk PPk (fRecO loc obj f) := by
  intro pc lv A pr nx tab fs L ρ clv cσ h hr hp
  have hr' : ∀ ρ', agr2 nx ρ ρ' → tOk ρ' tab ∧ fOk ρ' fs ∧ rel2 (crel ρ') cσ A := fun ρ' ha => ⟨(hr ρ' ha).1, (hr ρ' ha).2.1, (hr ρ' ha).2.2.2⟩
  unfold fRecO at h
  split at h
  · rename_i e o _ _
    split at h
    · split at h
      · rename_i t a b c _ _ _ _
        cases hz : (bif (bif scL nx e then inF tab fs 0 (.ofNat 59) e else false) then pr.any (fun p => decide (p = (0, [t, a, b, c], []))) else false) with
        | false => rw [hz] at h; cases h
        | true =>
          rw [hz, cond_true] at h
          cases h
          obtain ⟨hz, z2⟩ := cand hz
          obtain ⟨hsc, hz⟩ := cand hz
          obtain ⟨p, hm, hpe⟩ := List.any_eq_true.mp z2
          have hpe' := of_decide_eq_true hpe
          subst hpe'
          have hP : okProg _ _ _ _ := hp ρ agr2.rf _ hm
          have hin := inF_ok (hr ρ agr2.rf).1 (hr ρ agr2.rf).2.1 hz
          have e59 : (Int.ofNat 59) = 59 := rfl
          obtain ⟨i, hi⟩ : ∃ i : Nat, ev ρ e = i := ⟨(ev ρ e).toNat, by omega⟩
          have hE : ∀ ρ', agr2 nx ρ ρ' → ev ρ' e = (i : Int) := fun ρ' ha => (scL_ev ha hsc).trans hi
          exact recL_ok hr' hp (fun ρ' ha => ⟨⟨hE ρ' ha, hE ρ' ha⟩, hE ρ' ha, hE ρ' ha⟩) (hP.2 i (by omega))
      · cases h
    · cases h
  · cases h
/-- an element of a row at a place that isn't told gets a name -/
noncomputable def fEl1 (q : Nat) (e : Ln) (A : AH) (pr : List PD) (nx : Nat) (tab : Tb) (fs : List Ln) (s : List Sg) : Option (List HR) := match idxR tab fs e with
  | some (a, b) => (match sgHull tab s a b with
    | some (lo, hi) => some [(A, (7, [q], [e, sL nx]) :: pr, Nat.succ nx, tbIns nx lo hi tab, fs)]
    | none => none)
  | none => none
noncomputable def isNo {α : Type} (o : Option α) : Bool := match o with
  | some _ => false
  | none => true
noncomputable def fEl (base f loc : Nat) : HF := fun _ lv A pr nx tab fs => match rowF lv A f, alGet loc lv with
  | some q, some (.inl (false, v)) => (match A[q]? with
    | some (.inr (k, .inl s)) => bif (bif Nat.beq k 0 then (bif scL nx (pluL v (.ofNat base)) then (bif inF tab fs lo32 hi32 (pluL v (.ofNat base)) then isNo (findE tab fs q (pluL v (.ofNat base)) pr) else false) else false) else false) then fEl1 q (pluL v (.ofNat base)) A pr nx tab fs s else none
    | _ => none)
  | _, _ => none
theorem fEl_ok (base f loc : Nat) : HFOk PPk (fEl base f loc) := by
  intro pc lv A pr nx tab fs L ρ clv cσ h hr hp
  unfold fEl at h
  split at h
  · rename_i q v hq hv
    split at h
    · rename_i k s hA
      generalize pluL v (.ofNat base) = e at h
      cases hc : (bif Nat.beq k 0 then (bif scL nx e then (bif inF tab fs lo32 hi32 e then isNo (findE tab fs q e pr) else false) else false) else false) with
      | false => rw [hc] at h; cases h
      | true =>
        rw [hc, cond_true] at h
        obtain ⟨k1, hc⟩ := cand hc
        obtain ⟨hsc, hc⟩ := cand hc
        obtain ⟨hin, -⟩ := cand hc
        have ek := Nat.eq_of_beq_eq_true k1
        subst ek
        unfold fEl1 at h
        split at h
        · rename_i a b hix
          split at h
          · rename_i lo hi hh
            cases h
            obtain ⟨r1, r2, r3, r4⟩ := hr ρ agr2.rf
            obtain ⟨c, hc1, hc2⟩ := rel2_get r4 hA
            obtain ⟨l, e5, hl⟩ := crI_inv (by decide) hc2
            subst e5
            have hb := inF_ok r1 r2 hin
            have hx : (Int32.ofInt (ev ρ e)).toInt = ev ρ e := k32 hb.1 hb.2
            obtain ⟨p1, p2, p3⟩ := idxR_ok r1 r2 hx hix
            obtain ⟨y, y1, y2, y3⟩ := sgHull_ok r1 hl hh _ p2 p3
            have p0 : (0 : Int) ≤ (Int32.ofInt (ev ρ e)).toInt := Int32.le_iff_toInt_le.mp p1
            have hn : ev ρ e = ((Int32.ofInt (ev ρ e)).toNatClampNeg : Int) := by
              have hcl : (Int32.ofInt (ev ρ e)).toNatClampNeg = (Int32.ofInt (ev ρ e)).toInt.toNat := rfl
              rw [hcl]
              omega
            generalize (Int32.ofInt (ev ρ e)).toNatClampNeg = n at hn y1
            have hg : gI (arrI (cσ.getD q (.inl (0, [])))) n = y.toInt := by
              have e6 : arrI (cσ.getD q (.inl (0, []))) = l := by
                rw [List.getD_eq_getElem?_getD, hc1]
                rfl
              rw [e6]
              unfold gI
              rw [List.getD_eq_getElem?_getD, y1]
              rfl
            refine ⟨_, List.mem_cons_self, fun j => if j = nx then y.toInt else ρ j, Nat.le_succ nx, ev_upd, fun ρ' ha => ?_, fun ρ' ha => ?_⟩
            all_goals
              have ha' : agr2 nx ρ ρ' := fun i hi => (ha i (Nat.lt_succ_of_lt hi)).trans (ev_upd i hi)
              have hw : ρ' nx = y.toInt := (ha nx (Nat.lt_succ_self nx)).trans (if_pos rfl)
            · obtain ⟨t1, t2, t3, t4⟩ := hr ρ' ha'
              exact ⟨tOk_cons t1 (by rw [hw]; exact y2) (by rw [hw]; exact y3), t2, t4⟩
            · refine pr_7 (hp ρ' ha') ((scL_ev ha' hsc).trans hn) ?_
              rw [hg, ev_s]
              exact hw.symm
          · cases h
        · cases h
    · cases h
  · cases h
/-! ===== hints: the seals of programs, which of two flies ===== -/
/-- more said of the same state -/
noncomputable def addsP (new : List PD) (A : AH) (pr : List PD) (nx : Nat) (tab : Tb) (fs : List Ln) : Option (List HR) := match new with
  | [] => none
  | p :: r => some [(A, p :: (r ++ pr), nx, tab, fs)]
theorem addsP_ok {new : List PD} {A : AH} {pr : List PD} {nx : Nat} {tab : Tb} {fs : List Ln} {L : List HR} {ρ : Nat → Int} {cσ : SH} (h : addsP new A pr nx tab fs = some L) (hr : ∀ ρ', agr2 nx ρ ρ' → tOk ρ' tab ∧ fOk ρ' fs ∧ rel2 (crel ρ') cσ A) (hp : ∀ ρ', agr2 nx ρ ρ' → prOk PPk ρ' cσ pr) (hn : ∀ ρ', agr2 nx ρ ρ' → prOk PPk ρ' cσ new) : ∃ q ∈ L, HGood ρ nx cσ q := by
  unfold addsP at h
  split at h
  · cases h
  · rename_i p r
    cases h
    refine ⟨_, List.mem_cons_self, hGood0 hr fun ρ' ha q hq => ?_⟩
    rcases List.mem_cons.mp hq with rfl | hq
    · exact hn ρ' ha _ List.mem_cons_self
    · rcases List.mem_append.mp hq with hq | hq
      · exact hn ρ' ha q (List.mem_cons_of_mem _ hq)
      · exact hp ρ' ha q hq
theorem hrA {nx : Nat} {tab : Tb} {fs : List Ln} {A : AH} {lv : AL} {clv : LV} {ρ : Nat → Int} {cσ : SH} (hr : ∀ ρ', agr2 nx ρ ρ' → tOk ρ' tab ∧ fOk ρ' fs ∧ lvR ρ' clv lv ∧ rel2 (crel ρ') cσ A) : ∀ ρ', agr2 nx ρ ρ' → tOk ρ' tab ∧ fOk ρ' fs ∧ rel2 (crel ρ') cσ A := fun ρ' ha => ⟨(hr ρ' ha).1, (hr ρ' ha).2.1, (hr ρ' ha).2.2.2⟩
noncomputable def rows4 (A : AH) (o f : Nat) : Option (Nat × Nat × Nat × Nat) := match A[o]? with
  | some (.inl (_, as)) => (match refAt as f, refAt as (Nat.succ f), refAt as (Nat.succ (Nat.succ f)), refAt as (Nat.succ (Nat.succ (Nat.succ f))) with
    | some a, some b, some c, some d => some (a, b, c, d)
    | _, _, _, _ => none)
  | _ => none
/-- no steps: the seal begins at 17; of the object in a local, whose rows stand from field f on -/
noncomputable def fZ8 (loc f : Nat) : HF := fun _ lv A pr nx tab fs => match alGet loc lv with
  | some (.inr (.inl (some o))) => (match rows4 A o f with
    | some (a, b, c, d) => addsP [(8, [a, b, c, d], [kL (.ofNat 0), kL (.ofNat 17)])] A pr nx tab fs
    | none => none)
  | _ => none
theorem fZ8_ok (loc f : Nat) : HFOk PPk (fZ8 loc f) := by
  intro pc lv A pr nx tab fs L ρ clv cσ h hr hp
  unfold fZ8 at h
  split at h
  · split at h
    · rename_i a b c d _
      refine addsP_ok h (hrA hr) hp fun ρ' _ p hq => ?_
      rw [List.mem_singleton.mp hq]
      refine (show PPn 8 [arrI (cσ.getD a (.inl (0, []))), arrI (cσ.getD b (.inl (0, []))), arrI (cσ.getD c (.inl (0, []))), arrI (cσ.getD d (.inl (0, [])))] [ev ρ' (kL (.ofNat 0)), ev ρ' (kL (.ofNat 17))] from ⟨rfl, 0, ?_, Nat.zero_le _, ⟨Nat.zero_le _, Nat.zero_le _, Nat.zero_le _, Nat.zero_le _⟩, ?_⟩)
      · rw [ev_k]; rfl
      · rw [ev_k]; rfl
    · cases h
  · cases h
/-- the same of the model's row (field f of the object in local 0), from place o on -/
noncomputable def fZ9 (f o : Nat) : HF := fun _ lv A pr nx tab fs => match rowF lv A f with
  | some q => (match A[q]? with
    | some (.inr (k, .inl s)) => bif (bif Nat.blt k 100 then Nat.ble o (sgLen s) else false) then addsP [(9, [q], [kL (.ofNat o), kL (.ofNat 0), kL (.ofNat 17)])] A pr nx tab fs else none
    | _ => none)
  | none => none
theorem fZ9_ok (f o : Nat) : HFOk PPk (fZ9 f o) := by
  intro pc lv A pr nx tab fs L ρ clv cσ h hr hp
  unfold fZ9 at h
  split at h
  · rename_i q _
    split at h
    · rename_i k s hA
      cases z : (bif Nat.blt k 100 then Nat.ble o (sgLen s) else false) with
      | false => rw [z] at h; cases h
      | true =>
        rw [z, cond_true] at h
        obtain ⟨z1, z2⟩ := cand z
        refine addsP_ok h (hrA hr) hp fun ρ' ha p hq => ?_
        rw [List.mem_singleton.mp hq]
        obtain ⟨c, c1, c2⟩ := rel2_get (hr ρ' ha).2.2.2 hA
        obtain ⟨l, e1, e2⟩ := crI_inv (blt_iff.mp z1) c2
        subst e1
        have aD : arrI (cσ.getD q (.inl (0, []))) = l := by
          rw [List.getD_eq_getElem?_getD, c1]
          rfl
        have hl := srel_len e2
        have hle := Nat.le_of_ble_eq_true z2
        show PPn 9 [arrI (cσ.getD q (.inl (0, [])))] [ev ρ' (kL (.ofNat o)), ev ρ' (kL (.ofNat 0)), ev ρ' (kL (.ofNat 17))]
        rw [aD, ev_k, ev_k, ev_k]
        exact Or.inr (Or.inl ⟨rfl, o, 0, rfl, rfl, Nat.zero_le _, by omega, rfl⟩)
    · cases h
  · cases h
/-- how many steps, as the constant that it is -/
noncomputable def cn89 (tab : Tb) (p : PD) : Option PD := match p.2.2 with
  | [n, s] => bif Nat.beq p.1 8 then (match cst tab n with
    | some (.ofNat c) => some (p.1, p.2.1, [kL (.ofNat c), s])
    | _ => none) else none
  | [o, n, s] => bif Nat.beq p.1 9 then (match cst tab n with
    | some (.ofNat c) => some (p.1, p.2.1, [o, kL (.ofNat c), s])
    | _ => none) else none
  | _ => none
theorem cn89_ok {ρ : Nat → Int} {tab : Tb} {cσ : SH} {pr : List PD} (ht : tOk ρ tab) (hp : prOk PPk ρ cσ pr) : prOk PPk ρ cσ (pr.filterMap (cn89 tab)) := fun p hq => by
  obtain ⟨p0, hm, hq⟩ := List.mem_filterMap.mp hq
  have h0 := hp p0 hm
  unfold cn89 at hq
  split at hq
  · rename_i n s hns
    cases z : Nat.beq p0.1 8 with
    | false => rw [z] at hq; cases hq
    | true =>
      rw [z, cond_true] at hq
      split at hq
      · rename_i c hc
        cases hq
        rw [hns] at h0
        show PPk p0.1 _ [ev ρ (kL (.ofNat c)), ev ρ s]
        rw [show ev ρ (kL (.ofNat c)) = ev ρ n by rw [ev_k, cst_ok ht hc]]
        exact h0
      · cases hq
  · rename_i o n s hns
    cases z : Nat.beq p0.1 9 with
    | false => rw [z] at hq; cases hq
    | true =>
      rw [z, cond_true] at hq
      split at hq
      · rename_i c hc
        cases hq
        rw [hns] at h0
        show PPk p0.1 _ [ev ρ o, ev ρ (kL (.ofNat c)), ev ρ s]
        rw [show ev ρ (kL (.ofNat c)) = ev ρ n by rw [ev_k, cst_ok ht hc]]
        exact h0
      · cases hq
  · cases hq
noncomputable def fCn : HF := fun _ _ A pr nx tab fs => addsP (pr.filterMap (cn89 tab)) A pr nx tab fs
theorem fCn_ok : HFOk PPk fCn := by
  intro pc lv A pr nx tab fs L ρ clv cσ h hr hp
  exact addsP_ok h (hrA hr) hp fun ρ' ha => cn89_ok (hr ρ' ha).1 (hp ρ' ha)
/-- an element told exactly -/
noncomputable def elA (A : AH) (q i : Nat) : Option Ln := match A[q]? with
  | some (.inr (k, .inl s)) => bif Nat.blt k 100 then (match sgAt s i with
    | some (.inl e) => some e
    | _ => none) else none
  | _ => none
theorem elA_ok {ρ : Nat → Int} {cσ : SH} {A : AH} {q i : Nat} {e : Ln} (hA : rel2 (crel ρ) cσ A) (h : elA A q i = some e) : i < (arrI (cσ.getD q (.inl (0, [])))).length ∧ gI (arrI (cσ.getD q (.inl (0, [])))) i = ev ρ e := by
  unfold elA at h
  split at h
  · rename_i k s hq
    cases z : Nat.blt k 100 with
    | false => rw [z] at h; cases h
    | true =>
      rw [z, cond_true] at h
      split at h
      · rename_i e' hs
        cases h
        obtain ⟨c, c1, c2⟩ := rel2_get hA hq
        obtain ⟨l, e1, e2⟩ := crI_inv (blt_iff.mp z) c2
        subst e1
        have aD : arrI (cσ.getD q (.inl (0, []))) = l := by
          rw [List.getD_eq_getElem?_getD, c1]
          rfl
        obtain ⟨x, x1, x2⟩ := sgAt_ok e2 hs
        rw [aD]
        refine ⟨(List.getElem?_eq_some_iff.mp x1).1, ?_⟩
        unfold gI
        rw [List.getD_eq_getElem?_getD, x1]
        exact x2
      · cases h
  · cases h
noncomputable def sealNx (s t a b c : Ln) : Ln := addL (addL (addL (addL (sclL (.ofNat 923521) s) (sclL (.ofNat 29791) t)) (sclL (.ofNat 961) a)) (sclL (.ofNat 31) b)) c
theorem sealNx_ev {ρ : Nat → Int} {s t a b c : Ln} : ev ρ (sealNx s t a b c) = 923521 * ev ρ s + 29791 * ev ρ t + 961 * ev ρ a + 31 * ev ρ b + ev ρ c := by
  unfold sealNx
  rw [ev_add, ev_add, ev_add, ev_add, ev_scl, ev_scl, ev_scl, ev_scl]
  rfl
/-- one step more: its numbers stand behind those that the seal counts -/
noncomputable def cl89 (A : AH) (p : PD) : Option PD := match p.2.1, p.2.2 with
  | [a, b, c, d], [(.ofNat m, []), s] => bif (bif Nat.beq p.1 8 then Nat.blt m 60 else false) then (match elA A a m, elA A b m, elA A c m, elA A d m with
    | some w, some x, some y, some z => some (8, [a, b, c, d], [kL (.ofNat (Nat.succ m)), sealNx s w x y z])
    | _, _, _, _ => none) else none
  | [q], [(.ofNat o, []), (.ofNat m, []), s] => bif (bif Nat.beq p.1 9 then Nat.blt m 60 else false) then (match elA A q (Nat.add o (Nat.mul 4 m)), elA A q (Nat.add o (Nat.add (Nat.mul 4 m) 1)), elA A q (Nat.add o (Nat.add (Nat.mul 4 m) 2)), elA A q (Nat.add o (Nat.add (Nat.mul 4 m) 3)) with
    | some w, some x, some y, some z => some (9, [q], [kL (.ofNat o), kL (.ofNat (Nat.succ m)), sealNx s w x y z])
    | _, _, _, _ => none) else none
  | _, _ => none
theorem cl89_ok {ρ : Nat → Int} {cσ : SH} {A : AH} {pr : List PD} (hA : rel2 (crel ρ) cσ A) (hp : prOk PPk ρ cσ pr) : prOk PPk ρ cσ (pr.filterMap (cl89 A)) := fun p hq => by
  obtain ⟨p0, hm, hq⟩ := List.mem_filterMap.mp hq
  unfold cl89 at hq
  split at hq
  · rename_i a b c d m s h1 h2
    obtain ⟨k0, l0, ns0⟩ := p0
    try dsimp only at h1 h2 hq
    subst h1; subst h2
    cases z0 : (bif Nat.beq k0 8 then Nat.blt m 60 else false) with
    | false => rw [z0] at hq; cases hq
    | true =>
      rw [z0, cond_true] at hq
      obtain ⟨z1, z2⟩ := cand z0
      have ek := Nat.eq_of_beq_eq_true z1
      subst ek
      have h60 := blt_iff.mp z2
      split at hq
      · rename_i w x y z hw hx hy hz
        cases hq
        obtain ⟨w1, w2⟩ := elA_ok hA hw
        obtain ⟨x1, x2⟩ := elA_ok hA hx
        obtain ⟨y1, y2⟩ := elA_ok hA hy
        obtain ⟨u1, u2⟩ := elA_ok hA hz
        obtain ⟨m', m1, m2, m3, m4⟩ := pn8 hp hm
        rw [show ev ρ ((.ofNat m, []) : Ln) = (m : Int) from ev_k ρ m] at m1
        have em : m' = m := by omega
        subst em
        refine (show PPn 8 [arrI (cσ.getD a (.inl (0, []))), arrI (cσ.getD b (.inl (0, []))), arrI (cσ.getD c (.inl (0, []))), arrI (cσ.getD d (.inl (0, [])))] [ev ρ (kL (.ofNat (Nat.succ m'))), ev ρ (sealNx s w x y z)] from ⟨rfl, m' + 1, ?_, by omega, ⟨w1, x1, y1, u1⟩, ?_⟩)
        · rw [ev_k]; rfl
        · rw [sealNx_ev, ← w2, ← x2, ← y2, ← u2, m4]
          rfl
      · cases hq
  · rename_i q o m s h1 h2
    obtain ⟨k0, l0, ns0⟩ := p0
    try dsimp only at h1 h2 hq
    subst h1; subst h2
    cases z0 : (bif Nat.beq k0 9 then Nat.blt m 60 else false) with
    | false => rw [z0] at hq; cases hq
    | true =>
      rw [z0, cond_true] at hq
      obtain ⟨z1, z2⟩ := cand z0
      have ek := Nat.eq_of_beq_eq_true z1
      subst ek
      have h60 := blt_iff.mp z2
      split at hq
      · rename_i w x y z hw hx hy hz
        cases hq
        obtain ⟨w1, w2⟩ := elA_ok hA hw
        obtain ⟨x1, x2⟩ := elA_ok hA hx
        obtain ⟨y1, y2⟩ := elA_ok hA hy
        obtain ⟨u1, u2⟩ := elA_ok hA hz
        obtain ⟨p', m', m0, m1, m2, m3, m4⟩ := pn9 hp hm
        rw [show ev ρ ((.ofNat o, []) : Ln) = (o : Int) from ev_k ρ o] at m0
        rw [show ev ρ ((.ofNat m, []) : Ln) = (m : Int) from ev_k ρ m] at m1
        have ep : p' = o := by omega
        subst ep
        have em : m' = m := by omega
        subst em
        show PPn 9 [arrI (cσ.getD q (.inl (0, [])))] [ev ρ (kL (.ofNat p')), ev ρ (kL (.ofNat (Nat.succ m'))), ev ρ (sealNx s w x y z)]
        rw [ev_k, ev_k]
        have u1' : p' + (4 * m' + 3) < (arrI (cσ.getD q (.inl (0, [])))).length := u1
        refine Or.inr (Or.inl ⟨rfl, p', m' + 1, rfl, rfl, by omega, by omega, ?_⟩)
        rw [sealNx_ev, ← w2, ← x2, ← y2, ← u2, m4]
        rfl
      · cases hq
  · cases hq
noncomputable def fCl : HF := fun _ _ A pr nx tab fs => addsP (pr.filterMap (cl89 A)) A pr nx tab fs
theorem fCl_ok : HFOk PPk fCl := by
  intro pc lv A pr nx tab fs L ρ clv cσ h hr hp
  exact addsP_ok h (hrA hr) hp fun ρ' ha => cl89_ok (hr ρ' ha).2.2.2 (hp ρ' ha)
-- which of two programs flies
abbrev LK : Type := Ln × Ln × Ln × Ln × Ln × Ln × Ln × Ln × Ln
noncomputable def isLk (p : PD) : Option LK := match p.2.1, p.2.2 with
  | [], [al, x0, y0, x1, y1, n, s, m, t] => bif Nat.beq p.1 13 then some (al, x0, y0, x1, y1, n, s, m, t) else none
  | _, _ => none
theorem isLk_inv {p : PD} {al x0 y0 x1 y1 n s m t : Ln} (h : isLk p = some (al, x0, y0, x1, y1, n, s, m, t)) : p = (13, [], [al, x0, y0, x1, y1, n, s, m, t]) := by
  unfold isLk at h
  split at h
  · rename_i h1 h2
    obtain ⟨k0, l0, ns0⟩ := p
    try dsimp only at h1 h2 h
    subst h1; subst h2
    cases z0 : Nat.beq k0 13 with
    | false => rw [z0] at h; cases h
    | true =>
      rw [z0, cond_true] at h
      have ek := Nat.eq_of_beq_eq_true z0
      subst ek
      cases h
      rfl
  · cases h
theorem lk_ok {ρ : Nat → Int} {cσ : SH} {pr : List PD} {al x0 y0 x1 y1 n s m t : Ln} (hp : prOk PPk ρ cσ pr) (hm : (13, [], [al, x0, y0, x1, y1, n, s, m, t]) ∈ pr) : okLk (ev ρ al) (ev ρ x0) (ev ρ y0) (ev ρ x1) (ev ρ y1) (ev ρ n) (ev ρ s) (ev ρ m) (ev ρ t) := (show PPn 13 [] [ev ρ al, ev ρ x0, ev ρ y0, ev ρ x1, ev ρ y1, ev ρ n, ev ρ s, ev ρ m, ev ρ t] from hp _ hm).2
/-- numbers of a program said in other numbers, alike -/
noncomputable def rw8 (tab : Tb) (fs : List Ln) (x y n s : Ln) (p : PD) : Option PD := match p.2.2 with
  | [e, u] => bif Nat.beq p.1 8 then (bif (bif eqL tab fs e x then eqL tab fs u y else false) then some (8, p.2.1, [n, s]) else none) else none
  | _ => none
theorem rw8_ok {ρ : Nat → Int} {tab : Tb} {fs : List Ln} {cσ : SH} {pr : List PD} {x y n s : Ln} (ht : tOk ρ tab) (hf : fOk ρ fs) (hp : prOk PPk ρ cσ pr) (h1 : ev ρ n = ev ρ x) (h2 : ev ρ s = ev ρ y) : prOk PPk ρ cσ (pr.filterMap (rw8 tab fs x y n s)) := fun p hq => by
  obtain ⟨p0, hm, hq⟩ := List.mem_filterMap.mp hq
  have h0 := hp p0 hm
  unfold rw8 at hq
  split at hq
  · rename_i e u hns
    cases z : Nat.beq p0.1 8 with
    | false => rw [z] at hq; cases hq
    | true =>
      rw [z, cond_true] at hq
      cases w : (bif eqL tab fs e x then eqL tab fs u y else false) with
      | false => rw [w] at hq; cases hq
      | true =>
        rw [w] at hq
        cases hq
        obtain ⟨w1, w2⟩ := cand w
        rw [hns, Nat.eq_of_beq_eq_true z] at h0
        show PPk 8 _ [ev ρ n, ev ρ s]
        rw [h1, h2, ← eqL_ok ht hf w1, ← eqL_ok ht hf w2]
        exact h0
  · cases hq
/-- which one flies is told: the numbers of both are those of the two programs -/
noncomputable def fLo : HF := fun _ _ A pr nx tab fs => match pr.findSome? isLk with
  | some (al, x0, y0, x1, y1, n, s, m, t) => (match cst tab al with
    | some (.ofNat 0) => some [(A, pr.filterMap (rw8 tab fs x0 y0 n s) ++ (pr.filterMap (rw8 tab fs x1 y1 m t) ++ pr), nx, tab, subL n x0 :: subL x0 n :: subL m x1 :: subL x1 m :: fs)]
    | some (.ofNat 1) => some [(A, pr.filterMap (rw8 tab fs x1 y1 n s) ++ (pr.filterMap (rw8 tab fs x0 y0 m t) ++ pr), nx, tab, subL n x1 :: subL x1 n :: subL m x0 :: subL x0 m :: fs)]
    | _ => none)
  | none => none
theorem fOk_eq {ρ : Nat → Int} {fs : List Ln} {a b : Ln} (h : ev ρ a = ev ρ b) (hf : fOk ρ fs) : fOk ρ (subL a b :: subL b a :: fs) := fun q hq => by
  rcases List.mem_cons.mp hq with rfl | hq
  · rw [ev_sub]; omega
  · rcases List.mem_cons.mp hq with rfl | hq
    · rw [ev_sub]; omega
    · exact hf q hq
theorem fLo_ok : HFOk PPk fLo := by
  intro pc lv A pr nx tab fs L ρ clv cσ h hr hp
  unfold fLo at h
  split at h
  · rename_i al x0 y0 x1 y1 n s m t hl
    obtain ⟨p, hm, hi⟩ := List.exists_of_findSome?_eq_some hl
    have hi' := isLk_inv hi
    subst hi'
    have key : ∀ ρ', agr2 nx ρ ρ' → okLk _ _ _ _ _ _ _ _ _ := fun ρ' ha => lk_ok (hp ρ' ha) hm
    split at h
    · rename_i hc
      cases h
      have k0 : ∀ ρ', agr2 nx ρ ρ' → _ := fun ρ' ha => (key ρ' ha).1 (by rw [cst_ok (hr ρ' ha).1 hc]; rfl)
      refine ⟨_, List.mem_cons_self, hGood0 (fun ρ' ha => ⟨(hr ρ' ha).1, fOk_eq (k0 ρ' ha).1 (fOk_eq (k0 ρ' ha).2.2.1 (hr ρ' ha).2.1), (hr ρ' ha).2.2.2⟩) fun ρ' ha q hq => ?_⟩
      rcases List.mem_append.mp hq with hq | hq
      · exact rw8_ok (hr ρ' ha).1 (hr ρ' ha).2.1 (hp ρ' ha) (k0 ρ' ha).1 (k0 ρ' ha).2.1 q hq
      · rcases List.mem_append.mp hq with hq | hq
        · exact rw8_ok (hr ρ' ha).1 (hr ρ' ha).2.1 (hp ρ' ha) (k0 ρ' ha).2.2.1 (k0 ρ' ha).2.2.2 q hq
        · exact hp ρ' ha q hq
    · rename_i hc
      cases h
      have k0 : ∀ ρ', agr2 nx ρ ρ' → _ := fun ρ' ha => (key ρ' ha).2 (by rw [cst_ok (hr ρ' ha).1 hc]; rfl)
      refine ⟨_, List.mem_cons_self, hGood0 (fun ρ' ha => ⟨(hr ρ' ha).1, fOk_eq (k0 ρ' ha).1 (fOk_eq (k0 ρ' ha).2.2.1 (hr ρ' ha).2.1), (hr ρ' ha).2.2.2⟩) fun ρ' ha q hq => ?_⟩
      rcases List.mem_append.mp hq with hq | hq
      · exact rw8_ok (hr ρ' ha).1 (hr ρ' ha).2.1 (hp ρ' ha) (k0 ρ' ha).1 (k0 ρ' ha).2.1 q hq
      · rcases List.mem_append.mp hq with hq | hq
        · exact rw8_ok (hr ρ' ha).1 (hr ρ' ha).2.1 (hp ρ' ha) (k0 ρ' ha).2.2.1 (k0 ρ' ha).2.2.2 q hq
        · exact hp ρ' ha q hq
    · cases h
  · cases h
/-- said anew of the class's object in local 0: its plan (field fp; there the programs, field fg), its flight (field ff; there which one flies, field fa); a program's size in field 0, its rows from field 1 on -/
noncomputable def prgA (A : AH) (pr : List PD) (tab : Tb) (fs : List Ln) (o : Nat) : Option (Ln × Ln) := match A[o]?, rows4 A o 1 with
  | some (.inl (_, as)), some (a, b, c, d) => (match (as[0]? : Option AV) with
    | some (.inl (false, e)) => (match pr.findSome? (cp8 tab fs e a b c d 0 0 0 0) with
      | some (_, _, [_, t]) => some (e, t)
      | _ => none)
    | _ => none)
  | _, _ => none
noncomputable def lkA (fp fg ff fa : Nat) (lv : AL) (A : AH) (pr : List PD) (tab : Tb) (fs : List Ln) : Option (Ln × Ln × Ln × Ln × Ln) := match rowF lv A fp, rowF lv A ff with
  | some p, some f => (match A[p]?, A[f]? with
    | some (.inl (_, ap)), some (.inl (_, af)) => (match refAt ap fg, (af[fa]? : Option AV) with
      | some g, some (.inl (false, al)) => (match A[g]? with
        | some (.inr (_, .inr (.inr [some p0, some p1]))) => (match prgA A pr tab fs p0, prgA A pr tab fs p1 with
          | some (x0, y0), some (x1, y1) => some (al, x0, y0, x1, y1)
          | _, _ => none)
        | _ => none)
      | _, _ => none)
    | _, _ => none)
  | _, _ => none
noncomputable def fLc (fp fg ff fa : Nat) : HF := fun _ lv A pr nx tab fs => match lkA fp fg ff fa lv A pr tab fs with
  | some (al, x0, y0, x1, y1) => (match cst tab al with
    | some (.ofNat 0) => addsP [(13, [], [al, x0, y0, x1, y1, x0, y0, x1, y1])] A pr nx tab fs
    | some (.ofNat 1) => addsP [(13, [], [al, x0, y0, x1, y1, x1, y1, x0, y0])] A pr nx tab fs
    | _ => none)
  | none => none
theorem fLc_ok (fp fg ff fa : Nat) : HFOk PPk (fLc fp fg ff fa) := by
  intro pc lv A pr nx tab fs L ρ clv cσ h hr hp
  unfold fLc at h
  split at h
  · rename_i al x0 y0 x1 y1 _
    split at h
    · rename_i hc
      refine addsP_ok h (hrA hr) hp fun ρ' ha p hq => ?_
      rw [List.mem_singleton.mp hq]
      have e0 : ev ρ' al = 0 := by rw [cst_ok (hr ρ' ha).1 hc]; rfl
      exact (show PPn 13 [] [ev ρ' al, ev ρ' x0, ev ρ' y0, ev ρ' x1, ev ρ' y1, ev ρ' x0, ev ρ' y0, ev ρ' x1, ev ρ' y1] from ⟨rfl, fun _ => ⟨rfl, rfl, rfl, rfl⟩, fun e1 => (by omega)⟩)
    · rename_i hc
      refine addsP_ok h (hrA hr) hp fun ρ' ha p hq => ?_
      rw [List.mem_singleton.mp hq]
      have e0 : ev ρ' al = 1 := by rw [cst_ok (hr ρ' ha).1 hc]; rfl
      exact (show PPn 13 [] [ev ρ' al, ev ρ' x0, ev ρ' y0, ev ρ' x1, ev ρ' y1, ev ρ' x1, ev ρ' y1, ev ρ' x0, ev ρ' y0] from ⟨rfl, fun e1 => (by omega), fun _ => ⟨rfl, rfl, rfl, rfl⟩⟩)
    · cases h
  · cases h
/-- the other one flies now -/
noncomputable def fLf (ff fa : Nat) : HF := fun _ lv A pr nx tab fs => match rowF lv A ff, pr.findSome? isLk with
  | some f, some (al, x0, y0, x1, y1, n, s, m, t) => (match A[f]? with
    | some (.inl (_, af)) => (match (af[fa]? : Option AV) with
      | some (.inl (false, be)) => bif (bif eqL tab fs be (subL (kL (.ofNat 1)) al) then inF tab fs (.ofNat 0) (.ofNat 1) al else false) then addsP [(13, [], [be, x0, y0, x1, y1, m, t, n, s])] A pr nx tab fs else none
      | _ => none)
    | _ => none)
  | _, _ => none
theorem fLf_ok (ff fa : Nat) : HFOk PPk (fLf ff fa) := by
  intro pc lv A pr nx tab fs L ρ clv cσ h hr hp
  unfold fLf at h
  split at h
  · rename_i f al x0 y0 x1 y1 n s m t _ hl
    obtain ⟨p, hm, hi⟩ := List.exists_of_findSome?_eq_some hl
    have hi' := isLk_inv hi
    subst hi'
    split at h
    · split at h
      · rename_i be _
        cases z : (bif eqL tab fs be (subL (kL (.ofNat 1)) al) then inF tab fs (.ofNat 0) (.ofNat 1) al else false) with
        | false => rw [z] at h; cases h
        | true =>
          rw [z, cond_true] at h
          obtain ⟨z1, z2⟩ := cand z
          refine addsP_ok h (hrA hr) hp fun ρ' ha p hq => ?_
          rw [List.mem_singleton.mp hq]
          have e1 := eqL_ok (hr ρ' ha).1 (hr ρ' ha).2.1 z1
          rw [ev_sub, ev_k] at e1
          have e1' : ev ρ' be = 1 - ev ρ' al := e1
          have e2 := inF_ok (hr ρ' ha).1 (hr ρ' ha).2.1 z2
          have e2' : 0 ≤ ev ρ' al ∧ ev ρ' al ≤ 1 := e2
          have key := lk_ok (hp ρ' ha) hm
          exact (show PPn 13 [] [ev ρ' be, ev ρ' x0, ev ρ' y0, ev ρ' x1, ev ρ' y1, ev ρ' m, ev ρ' t, ev ρ' n, ev ρ' s] from ⟨rfl, fun e0 => (by
            obtain ⟨k1, k2, k3, k4⟩ := key.2 (by omega)
            exact ⟨k3, k4, k1, k2⟩), fun e0 => (by
            obtain ⟨k1, k2, k3, k4⟩ := key.1 (by omega)
            exact ⟨k3, k4, k1, k2⟩)⟩)
      · cases h
    · cases h
  · cases h
/-- one hint behind another -/
noncomputable def hThen (f g : HF) : HF := fun pc lv A pr nx tab fs => match f pc lv A pr nx tab fs with
  | some [(A1, pr1, nx1, tab1, fs1)] => (match g pc lv A1 pr1 nx1 tab1 fs1 with
    | some L => some L
    | none => some [(A1, pr1, nx1, tab1, fs1)])
  | r => r
theorem hThen_ok {f g : HF} (hf : HFOk PPk f) (hg : HFOk PPk g) : HFOk PPk (hThen f g) := by
  intro pc lv A pr nx tab fs L ρ clv cσ h hr hp
  unfold hThen at h
  split at h
  · rename_i A1 pr1 nx1 tab1 fs1 h1
    obtain ⟨q, hq, ρ1, q1, q2, q3, q4⟩ := hf pc lv A pr nx tab fs _ ρ clv cσ h1 hr hp
    rw [List.mem_singleton.mp hq] at q1 q3 q4
    try dsimp only at q1 q3 q4
    have hag : ∀ {ρ'}, agr2 nx1 ρ1 ρ' → agr2 nx ρ ρ' := fun {ρ'} ha i hi => (ha i (by omega)).trans (q2 i hi)
    split at h
    · rename_i L2 h2
      cases h
      obtain ⟨u, hu, ρ2, u1, u2, u3, u4⟩ := hg pc lv A1 pr1 nx1 tab1 fs1 _ ρ1 clv cσ h2 (fun ρ' ha => ⟨(q3 ρ' ha).1, (q3 ρ' ha).2.1, (hr ρ' (hag ha)).2.2.1, (q3 ρ' ha).2.2⟩) q4
      exact ⟨u, hu, ρ2, Nat.le_trans q1 u1, fun i hi => (u2 i (by omega)).trans (q2 i hi), u3, u4⟩
    · cases h
      exact ⟨_, List.mem_singleton.mpr rfl, ρ1, q1, q2, q3, q4⟩
  · rename_i r _
    exact hf pc lv A pr nx tab fs L ρ clv cσ h hr hp
/-- sums of two facts -/
noncomputable def sumFs (fs gs : List Ln) : List Ln := fs.flatMap (fun f => (gs.filter (fun g => shT f.2 g.2)).map (fun g => addL f g))
theorem sumFs_ok {ρ : Nat → Int} {fs gs : List Ln} (h1 : fOk ρ fs) (h2 : fOk ρ gs) : fOk ρ (sumFs fs gs) := fun q hq => by
  obtain ⟨f, hf, hq⟩ := List.mem_flatMap.mp hq
  obtain ⟨g, hg, rfl⟩ := List.mem_map.mp hq
  have a := h1 f hf
  have b := h2 g (List.mem_filter.mp hg).1
  rw [ev_add]
  omega
noncomputable def fSm : HF := fun _ _ A pr nx tab fs => some [(A, pr, nx, tab, sumFs fs fs ++ fs)]
theorem fSm_ok : HFOk PPk fSm := by
  intro pc lv A pr nx tab fs L ρ clv cσ h hr hp
  cases h
  refine ⟨_, List.mem_cons_self, hGood0 (fun ρ' ha => ⟨(hr ρ' ha).1, fun q hq => ?_, (hr ρ' ha).2.2.2⟩) hp⟩
  rcases List.mem_append.mp hq with hq | hq
  · exact sumFs_ok (hr ρ' ha).2.1 (hr ρ' ha).2.1 q hq
  · exact (hr ρ' ha).2.1 q hq
/-! ===== hints: whether four numbers are a step ===== -/
noncomputable def outF (tab : Tb) (fs : List Ln) (lo hi : Int) (e : Ln) : Bool := bif le0 tab fs (pluL e (Int.add (Int.neg lo) 1)) then true else le0 tab fs (subL (kL (Int.add hi 1)) e)
theorem outF_ok {ρ : Nat → Int} {tab : Tb} {fs : List Ln} (ht : tOk ρ tab) (hf : fOk ρ fs) {lo hi : Int} {e : Ln} (h : outF tab fs lo hi e = true) : ev ρ e < lo ∨ hi < ev ρ e := by
  unfold outF at h
  cases z : le0 tab fs (pluL e (Int.add (Int.neg lo) 1)) with
  | true =>
    have h1 := le0_ok ht hf z
    rw [ev_plu] at h1
    have e1 : Int.add (Int.neg lo) 1 = - lo + 1 := rfl
    rw [e1] at h1
    exact Or.inl (by omega)
  | false =>
    rw [z, cond_false] at h
    have h1 := le0_ok ht hf h
    rw [ev_sub, ev_k] at h1
    have e1 : Int.add hi 1 = hi + 1 := rfl
    rw [e1] at h1
    exact Or.inr (by omega)
noncomputable def isV1 (tab : Tb) (fs : List Ln) (lo hi : Int) (b : Ln) : Option Bool := bif outF tab fs lo hi b then some false else bif inF tab fs lo hi b then some true else none
theorem isV1_ok {ρ : Nat → Int} {tab : Tb} {fs : List Ln} (ht : tOk ρ tab) (hf : fOk ρ fs) {lo hi : Int} {b : Ln} {v : Bool} (h : isV1 tab fs lo hi b = some v) : v = true ↔ (lo ≤ ev ρ b ∧ ev ρ b ≤ hi) := by
  unfold isV1 at h
  cases z : outF tab fs lo hi b with
  | true =>
    rw [z] at h
    cases h
    have := outF_ok ht hf z
    exact ⟨fun h => (by cases h), fun h => (by omega)⟩
  | false =>
    rw [z, cond_false] at h
    cases w : inF tab fs lo hi b with
    | false => rw [w] at h; cases h
    | true =>
      rw [w] at h
      cases h
      have := inF_ok ht hf w
      exact ⟨fun _ => this, fun _ => rfl⟩
noncomputable def isAnd (x y : Option Bool) : Option Bool := match x, y with
  | some false, _ => some false
  | _, some false => some false
  | some true, some true => some true
  | _, _ => none
theorem isAnd_ok {x y : Option Bool} {v : Bool} {p q : Prop} (h : isAnd x y = some v) (hx : ∀ u, x = some u → (u = true ↔ p)) (hy : ∀ u, y = some u → (u = true ↔ q)) : v = true ↔ (p ∧ q) := by
  unfold isAnd at h
  split at h
  · cases h
    have := hx false rfl
    exact ⟨fun h => (by cases h), fun h => this.mpr h.1⟩
  · cases h
    have := hy false rfl
    exact ⟨fun h => (by cases h), fun h => this.mpr h.2⟩
  · cases h
    exact ⟨fun _ => ⟨(hx true rfl).mp rfl, (hy true rfl).mp rfl⟩, fun _ => rfl⟩
  · cases h
noncomputable def isV3 (tab : Tb) (fs : List Ln) (act b c : Ln) : Option Bool := bif inF tab fs (.ofNat 0) (.ofNat 0) act then some true else bif inF tab fs (.ofNat 1) (.ofNat 6) act then isAnd (isV1 tab fs (.ofNat 0) (.ofNat 11) b) (isV1 tab fs (.ofNat 0) (.ofNat 11) c) else bif (bif inF tab fs (.ofNat 7) (.ofNat 7) act then true else inF tab fs (.ofNat 10) (.ofNat 10) act) then isV1 tab fs (.ofNat 1) (.ofNat 20) b else bif inF tab fs (.ofNat 8) (.ofNat 8) act then isV1 tab fs (.ofNat 0) (.ofNat 1) b else bif inF tab fs (.ofNat 9) (.ofNat 9) act then isV1 tab fs (.ofNat 0) (.ofNat 7) b else none
theorem inF_ofN {ρ : Nat → Int} {tab : Tb} {fs : List Ln} (ht : tOk ρ tab) (hf : fOk ρ fs) {lo hi : Nat} {e : Ln} (h : inF tab fs (.ofNat lo) (.ofNat hi) e = true) : (lo : Int) ≤ ev ρ e ∧ ev ρ e ≤ (hi : Int) := inF_ok ht hf h
theorem isV3_ok {ρ : Nat → Int} {tab : Tb} {fs : List Ln} (ht : tOk ρ tab) (hf : fOk ρ fs) {act b c : Ln} {v : Bool} (h : isV3 tab fs act b c = some v) : v = true ↔ (ev ρ act = 0 ∨ ((1 ≤ ev ρ act ∧ ev ρ act ≤ 6) ∧ (0 ≤ ev ρ b ∧ ev ρ b ≤ 11) ∧ (0 ≤ ev ρ c ∧ ev ρ c ≤ 11)) ∨ ((ev ρ act = 7 ∨ ev ρ act = 10) ∧ (1 ≤ ev ρ b ∧ ev ρ b ≤ 20)) ∨ (ev ρ act = 8 ∧ (0 ≤ ev ρ b ∧ ev ρ b ≤ 1)) ∨ (ev ρ act = 9 ∧ (0 ≤ ev ρ b ∧ ev ρ b ≤ 7))) := by
  unfold isV3 at h
  cases z0 : inF tab fs (.ofNat 0) (.ofNat 0) act with
  | true =>
    rw [z0] at h
    cases h
    have := inF_ofN ht hf z0
    exact ⟨fun _ => Or.inl (by omega), fun _ => rfl⟩
  | false =>
    rw [z0, cond_false] at h
    cases z1 : inF tab fs (.ofNat 1) (.ofNat 6) act with
    | true =>
      rw [z1, cond_true] at h
      have h1 := inF_ofN ht hf z1
      have h2 := isAnd_ok h (fun u hu => isV1_ok ht hf hu) (fun u hu => isV1_ok ht hf hu)
      have e0 : (Int.ofNat 0) = 0 := rfl
      have e1 : (Int.ofNat 11) = 11 := rfl
      rw [e0, e1] at h2
      rw [h2]
      constructor
      · intro h3
        exact Or.inr (Or.inl ⟨by omega, h3⟩)
      · intro h3
        rcases h3 with h3 | h3 | h3 | h3 | h3
        · omega
        · exact h3.2
        · omega
        · omega
        · omega
    | false =>
      rw [z1, cond_false] at h
      cases z2 : (bif inF tab fs (.ofNat 7) (.ofNat 7) act then true else inF tab fs (.ofNat 10) (.ofNat 10) act) with
      | true =>
        rw [z2, cond_true] at h
        have h1 : ev ρ act = 7 ∨ ev ρ act = 10 := by
          cases z3 : inF tab fs (.ofNat 7) (.ofNat 7) act with
          | true => have := inF_ofN ht hf z3; exact Or.inl (by omega)
          | false =>
            rw [z3, cond_false] at z2
            have := inF_ofN ht hf z2
            exact Or.inr (by omega)
        have h2 := isV1_ok ht hf h
        have e0 : (Int.ofNat 1) = 1 := rfl
        have e1 : (Int.ofNat 20) = 20 := rfl
        rw [e0, e1] at h2
        rw [h2]
        constructor
        · intro h3
          exact Or.inr (Or.inr (Or.inl ⟨h1, h3⟩))
        · intro h3
          rcases h3 with h3 | h3 | h3 | h3 | h3
          · omega
          · omega
          · exact h3.2
          · omega
          · omega
      | false =>
        rw [z2, cond_false] at h
        cases z4 : inF tab fs (.ofNat 8) (.ofNat 8) act with
        | true =>
          rw [z4, cond_true] at h
          have h1 := inF_ofN ht hf z4
          have h2 := isV1_ok ht hf h
          have e0 : (Int.ofNat 0) = 0 := rfl
          have e1 : (Int.ofNat 1) = 1 := rfl
          rw [e0, e1] at h2
          rw [h2]
          constructor
          · intro h3
            exact Or.inr (Or.inr (Or.inr (Or.inl ⟨by omega, h3⟩)))
          · intro h3
            rcases h3 with h3 | h3 | h3 | h3 | h3
            · omega
            · omega
            · omega
            · exact h3.2
            · omega
        | false =>
          rw [z4, cond_false] at h
          cases z5 : inF tab fs (.ofNat 9) (.ofNat 9) act with
          | false => rw [z5] at h; cases h
          | true =>
            rw [z5, cond_true] at h
            have h1 := inF_ofN ht hf z5
            have h2 := isV1_ok ht hf h
            have e0 : (Int.ofNat 0) = 0 := rfl
            have e1 : (Int.ofNat 7) = 7 := rfl
            rw [e0, e1] at h2
            rw [h2]
            constructor
            · intro h3
              exact Or.inr (Or.inr (Or.inr (Or.inr ⟨by omega, h3⟩)))
            · intro h3
              rcases h3 with h3 | h3 | h3 | h3 | h3
              · omega
              · omega
              · omega
              · omega
              · exact h3.2
noncomputable def isVal (tab : Tb) (fs : List Ln) (act a b c : Ln) : Option Bool := isAnd (isAnd (isV1 tab fs (.ofNat 0) (.ofNat 10) act) (isV1 tab fs (.ofNat 0) (.ofNat 11) a)) (isV3 tab fs act b c)
theorem isVal_ok {ρ : Nat → Int} {tab : Tb} {fs : List Ln} (ht : tOk ρ tab) (hf : fOk ρ fs) {act a b c : Ln} {v : Bool} (h : isVal tab fs act a b c = some v) : isF (ev ρ act) (ev ρ a) (ev ρ b) (ev ρ c) = if v then 1 else 0 := by
  unfold isVal at h
  have h1 := isAnd_ok h (fun u hu => isAnd_ok hu (fun u hu => isV1_ok ht hf hu) (fun u hu => isV1_ok ht hf hu)) (fun u hu => isV3_ok ht hf hu)
  have e0 : (Int.ofNat 0) = 0 := rfl
  have e1 : (Int.ofNat 10) = 10 := rfl
  have e2 : (Int.ofNat 11) = 11 := rfl
  rw [e0, e1, e2] at h1
  unfold isF
  cases v with
  | true =>
    rw [if_pos ⟨(h1.mp rfl).1.1, (h1.mp rfl).1.2, (h1.mp rfl).2⟩]
    rfl
  | false =>
    rw [if_neg fun h2 => absurd (h1.mpr ⟨⟨h2.1, h2.2.1⟩, h2.2.2⟩) Bool.false_ne_true]
    rfl
noncomputable def f12 (tab : Tb) (fs : List Ln) (act a b c : Ln) (p : PD) : Option Ln := match p.2.1, p.2.2 with
  | [], [w, x, y, z, r] => bif Nat.beq p.1 12 then (bif (bif eqL tab fs w act then (bif eqL tab fs x a then (bif eqL tab fs y b then eqL tab fs z c else false) else false) else false) then some r else none) else none
  | _, _ => none
theorem f12_ok {ρ : Nat → Int} {tab : Tb} {fs : List Ln} {cσ : SH} {pr : List PD} {act a b c r : Ln} {p : PD} (ht : tOk ρ tab) (hf : fOk ρ fs) (hp : prOk PPk ρ cσ pr) (hm : p ∈ pr) (h : f12 tab fs act a b c p = some r) : ev ρ r = isF (ev ρ act) (ev ρ a) (ev ρ b) (ev ρ c) := by
  unfold f12 at h
  split at h
  · rename_i w x y z r' h1 h2
    obtain ⟨k0, l0, ns0⟩ := p
    try dsimp only at h1 h2 h
    subst h1; subst h2
    cases z0 : Nat.beq k0 12 with
    | false => rw [z0] at h; cases h
    | true =>
      rw [z0, cond_true] at h
      have ek := Nat.eq_of_beq_eq_true z0
      subst ek
      cases zz : (bif eqL tab fs w act then (bif eqL tab fs x a then (bif eqL tab fs y b then eqL tab fs z c else false) else false) else false) with
      | false => rw [zz] at h; cases h
      | true =>
        rw [zz] at h
        cases h
        obtain ⟨y1, zz⟩ := cand zz
        obtain ⟨y2, zz⟩ := cand zz
        obtain ⟨y3, y4⟩ := cand zz
        have h3 : ev ρ r = isF (ev ρ w) (ev ρ x) (ev ρ y) (ev ρ z) := (show PPn 12 [] [ev ρ w, ev ρ x, ev ρ y, ev ρ z, ev ρ r] from hp _ hm).2
        rw [h3, eqL_ok ht hf y1, eqL_ok ht hf y2, eqL_ok ht hf y3, eqL_ok ht hf y4]
  · cases h
noncomputable def fIsF (l0 l1 l2 l3 : Nat) : HF := fun _ lv A pr nx tab fs => match alGet l0 lv, alGet l1 lv, alGet l2 lv, alGet l3 lv with
  | some (.inl (false, act)), some (.inl (false, a)), some (.inl (false, b)), some (.inl (false, c)) => (match isVal tab fs act a b c with
    | some v => (match pr.findSome? (f12 tab fs act a b c) with
      | some r => (match cst tab r with
        | some k => bif eqI k (bif v then .ofNat 1 else .ofNat 0) then none else some []
        | none => none)
      | none => addsP [(12, [], [act, a, b, c, kL (bif v then .ofNat 1 else .ofNat 0)])] A pr nx tab fs)
    | none => none)
  | _, _, _, _ => none
theorem fIsF_ok (l0 l1 l2 l3 : Nat) : HFOk PPk (fIsF l0 l1 l2 l3) := by
  intro pc lv A pr nx tab fs L ρ clv cσ h hr hp
  unfold fIsF at h
  split at h
  · rename_i act a b c _ _ _ _
    split at h
    · rename_i v hv
      have hb : (bif v then (.ofNat 1 : Int) else .ofNat 0) = if v then 1 else 0 := by cases v <;> rfl
      split at h
      · rename_i r hr1
        split at h
        · rename_i k hk
          cases z : eqI k (bif v then .ofNat 1 else .ofNat 0) with
          | true => rw [z] at h; cases h
          | false =>
            exfalso
            obtain ⟨p, hm, hf⟩ := List.exists_of_findSome?_eq_some hr1
            obtain ⟨t1, t2, -, -⟩ := hr ρ agr2.rf
            have h1 := f12_ok t1 t2 (hp ρ agr2.rf) hm hf
            rw [isVal_ok t1 t2 hv, cst_ok t1 hk, ← hb] at h1
            rw [h1] at z
            cases v <;> cases z
        · cases h
      · refine addsP_ok h (hrA hr) hp fun ρ' ha p hq => ?_
        rw [List.mem_singleton.mp hq]
        refine (show PPn 12 [] [ev ρ' act, ev ρ' a, ev ρ' b, ev ρ' c, ev ρ' (kL (bif v then .ofNat 1 else .ofNat 0))] from ⟨rfl, ?_⟩)
        rw [ev_k, hb, isVal_ok (hr ρ' ha).1 (hr ρ' ha).2.1 hv]
    · cases h
  · cases h
theorem isF_rec {act a b c : Int} (h : isF act a b c = 1) : okRec act a b c := by
  unfold isF at h
  split at h
  · rename_i q
    obtain ⟨q1, q2, q3⟩ := q
    refine ⟨q1, q2, fun h1 h2 => ?_, fun h1 => ?_, fun h1 => ?_⟩
    · rcases q3 with q3 | q3 | q3 | q3 | q3
      · omega
      · exact q3.2
      · omega
      · omega
      · omega
    · rcases q3 with q3 | q3 | q3 | q3 | q3
      · omega
      · omega
      · omega
      · exact q3.2
      · omega
    · rcases q3 with q3 | q3 | q3 | q3 | q3
      · omega
      · omega
      · omega
      · omega
      · exact q3.2
  · cases h
/-- a record left out is a step again -/
noncomputable def ci01 (A : AH) (pr : List PD) (tab : Tb) (fs : List Ln) (p : PD) : Option PD := match p.2.1, p.2.2 with
  | [t, a, b, c], [] => bif (bif Nat.ble 1000 p.1 then Nat.blt p.1 2000 else false) then (match elA A t (Nat.sub p.1 1000), elA A a (Nat.sub p.1 1000), elA A b (Nat.sub p.1 1000), elA A c (Nat.sub p.1 1000) with
    | some w, some x, some y, some z => (match pr.findSome? (f12 tab fs w x y z) with
      | some r => (match cst tab r with
        | some (.ofNat 1) => some (0, [t, a, b, c], [])
        | _ => none)
      | none => none)
    | _, _, _, _ => none) else none
  | [q], [] => bif Nat.ble 2000 p.1 then (match elA A q (Nat.add 200 (Nat.mul 4 (Nat.sub p.1 2000))), elA A q (Nat.add 201 (Nat.mul 4 (Nat.sub p.1 2000))), elA A q (Nat.add 202 (Nat.mul 4 (Nat.sub p.1 2000))), elA A q (Nat.add 203 (Nat.mul 4 (Nat.sub p.1 2000))) with
    | some w, some x, some y, some z => (match pr.findSome? (f12 tab fs w x y z) with
      | some r => (match cst tab r with
        | some (.ofNat 1) => some (1, [q], [])
        | _ => none)
      | none => none)
    | _, _, _, _ => none) else none
  | _, _ => none
theorem ci01_ok {ρ : Nat → Int} {cσ : SH} {A : AH} {tab : Tb} {fs : List Ln} {pr : List PD} (ht : tOk ρ tab) (hf : fOk ρ fs) (hA : rel2 (crel ρ) cσ A) (hp : prOk PPk ρ cσ pr) : prOk PPk ρ cσ (pr.filterMap (ci01 A pr tab fs)) := fun p hq => by
  obtain ⟨p0, hm, hq⟩ := List.mem_filterMap.mp hq
  unfold ci01 at hq
  split at hq
  · rename_i t a b c h1 h2
    obtain ⟨k0, l0, ns0⟩ := p0
    try dsimp only at h1 h2 hq
    subst h1; subst h2
    cases z0 : (bif Nat.ble 1000 k0 then Nat.blt k0 2000 else false) with
    | false => rw [z0] at hq; cases hq
    | true =>
      rw [z0, cond_true] at hq
      obtain ⟨z1, z2⟩ := cand z0
      have k1 := Nat.le_of_ble_eq_true z1
      have k2 := blt_iff.mp z2
      split at hq
      · rename_i w x y z hw hx hy hz
        split at hq
        · rename_i r hr1
          split at hq
          · rename_i hc
            cases hq
            obtain ⟨pp, hm2, hf2⟩ := List.exists_of_findSome?_eq_some hr1
            have h3 := f12_ok ht hf hp hm2 hf2
            rw [cst_ok ht hc] at h3
            obtain ⟨-, w2⟩ := elA_ok hA hw
            obtain ⟨-, x2⟩ := elA_ok hA hx
            obtain ⟨-, y2⟩ := elA_ok hA hy
            obtain ⟨-, u2⟩ := elA_ok hA hz
            obtain ⟨v, rfl⟩ : ∃ v, k0 = v + 1000 := ⟨k0 - 1000, by omega⟩
            have hP : (1000 ≤ v + 1000 ∧ v + 1000 < 2000) ∧ okProgB (v + 1000 - 1000) _ _ _ _ := (show PPo (v + 1000) [_, _, _, _] from hp _ hm)
            refine (show okProg _ _ _ _ from ⟨hP.2.1, fun i hi => ?_⟩)
            rcases Nat.decEq i (v + 1000 - 1000) with hne | he
            · exact hP.2.2 i hi hne
            · rw [he]
              have e1 : Nat.sub (v + 1000) 1000 = v + 1000 - 1000 := rfl
              rw [e1] at w2 x2 y2 u2
              rw [w2, x2, y2, u2]
              exact isF_rec h3.symm
          · cases hq
        · cases hq
      · cases hq
  · rename_i q h1 h2
    obtain ⟨k0, l0, ns0⟩ := p0
    try dsimp only at h1 h2 hq
    subst h1; subst h2
    cases z0 : Nat.ble 2000 k0 with
    | false => rw [z0] at hq; cases hq
    | true =>
      rw [z0, cond_true] at hq
      have k1 := Nat.le_of_ble_eq_true z0
      split at hq
      · rename_i w x y z hw hx hy hz
        split at hq
        · rename_i r hr1
          split at hq
          · rename_i hc
            cases hq
            obtain ⟨pp, hm2, hf2⟩ := List.exists_of_findSome?_eq_some hr1
            have h3 := f12_ok ht hf hp hm2 hf2
            rw [cst_ok ht hc] at h3
            obtain ⟨-, w2⟩ := elA_ok hA hw
            obtain ⟨-, x2⟩ := elA_ok hA hx
            obtain ⟨-, y2⟩ := elA_ok hA hy
            obtain ⟨-, u2⟩ := elA_ok hA hz
            obtain ⟨v, rfl⟩ : ∃ v, k0 = v + 1000 + 1000 := ⟨k0 - 2000, by omega⟩
            have hP : 2000 ≤ v + 1000 + 1000 ∧ okStepsB (v + 1000 + 1000 - 2000) _ := (show (2000 ≤ v + 1000 + 1000 ∧ okStepsB (v + 1000 + 1000 - 2000) _) ∨ ((600 ≤ v + 1000 + 1000 ∧ v + 1000 + 1000 < 1000) ∧ okHarmB (v + 1000 + 1000 - 600) _) from hp _ hm).elim id (fun hx => absurd hx.1.2 (by omega))
            refine (show okSteps _ from ⟨hP.2.1, fun i hi => ?_⟩)
            rcases Nat.decEq i (v + 1000 + 1000 - 2000) with hne | he
            · exact hP.2.2 i hi hne
            · rw [he]
              have e1 : Nat.sub (v + 1000 + 1000) 2000 = v + 1000 + 1000 - 2000 := rfl
              rw [e1] at w2 x2 y2 u2
              rw [show gI (arrI (cσ.getD q (.inl (0, [])))) (200 + 4 * (v + 1000 + 1000 - 2000)) = ev ρ w from w2, show gI (arrI (cσ.getD q (.inl (0, [])))) (201 + 4 * (v + 1000 + 1000 - 2000)) = ev ρ x from x2, show gI (arrI (cσ.getD q (.inl (0, [])))) (202 + 4 * (v + 1000 + 1000 - 2000)) = ev ρ y from y2, show gI (arrI (cσ.getD q (.inl (0, [])))) (203 + 4 * (v + 1000 + 1000 - 2000)) = ev ρ z from u2]
              exact isF_rec h3.symm
          · cases hq
        · cases hq
      · cases hq
  · cases hq
noncomputable def fCi : HF := fun _ _ A pr nx tab fs => addsP (pr.filterMap (ci01 A pr tab fs)) A pr nx tab fs
theorem fCi_ok : HFOk PPk fCi := by
  intro pc lv A pr nx tab fs L ρ clv cσ h hr hp
  exact addsP_ok h (hrA hr) hp fun ρ' ha => ci01_ok (hr ρ' ha).1 (hr ρ' ha).2.1 (hr ρ' ha).2.2.2 (hp ρ' ha)
/-! ===== hints: slots and the ticks that they take ===== -/
noncomputable def objGo (A : AH) : Nat → List Nat → Option Nat
  | o, [] => some o
  | o, f :: r => match A[o]? with
    | some (.inl (_, as)) => (match refAt as f with
      | some q => objGo A q r
      | none => none)
    | _ => none
/-- the two rows of the slots that local 0 leads to -/
noncomputable def slotR (lv : AL) (A : AH) (ps : List Nat) : Option (Nat × Nat) := match alGet 0 lv with
  | some (.inr (.inl (some o))) => (match objGo A o ps with
    | some q => (match A[q]? with
      | some (.inl (_, as)) => (match refAt as 4, refAt as 5 with
        | some x, some y => some (x, y)
        | _, _ => none)
      | _ => none)
    | none => none)
  | _ => none
theorem occ0 (x y : List Int32) (bx bY s : Nat) : okOccG x y bx bY s 0 0 := ⟨0, 0, rfl, rfl, Nat.zero_le _, fun i hi => absurd hi (Nat.not_lt_zero _), fun j => by
  rw [Nat.zero_testBit]
  exact ⟨fun h => (by cases h), fun ⟨i, hi, _⟩ => absurd hi (Nat.not_lt_zero _)⟩⟩
noncomputable def fZ16 (ps : List Nat) : HF := fun _ lv A pr nx tab fs => match slotR lv A ps with
  | some (x, y) => addsP [(16, [x, y], [kL (.ofNat 0), kL (.ofNat 0)])] A pr nx tab fs
  | none => none
theorem fZ16_ok (ps : List Nat) : HFOk PPk (fZ16 ps) := by
  intro pc lv A pr nx tab fs L ρ clv cσ h hr hp
  unfold fZ16 at h
  split at h
  · rename_i x y _
    refine addsP_ok h (hrA hr) hp fun ρ' _ p hq => ?_
    rw [List.mem_singleton.mp hq]
    refine (show PPn 16 [arrI (cσ.getD x (.inl (0, []))), arrI (cσ.getD y (.inl (0, [])))] [ev ρ' (kL (.ofNat 0)), ev ρ' (kL (.ofNat 0))] from ?_)
    rw [ev_k]
    exact ⟨rfl, occ0 _ _ _ _ _⟩
  · cases h
noncomputable def fZ17 (f b : Nat) : HF := fun _ lv A pr nx tab fs => match rowF lv A f with
  | some q => addsP [(17, [q], [kL (.ofNat b), kL (.ofNat 0), kL (.ofNat 0)])] A pr nx tab fs
  | none => none
theorem fZ17_ok (f b : Nat) : HFOk PPk (fZ17 f b) := by
  intro pc lv A pr nx tab fs L ρ clv cσ h hr hp
  unfold fZ17 at h
  split at h
  · rename_i q _
    refine addsP_ok h (hrA hr) hp fun ρ' _ p hq => ?_
    rw [List.mem_singleton.mp hq]
    refine (show PPn 17 [arrI (cσ.getD q (.inl (0, [])))] [ev ρ' (kL (.ofNat b)), ev ρ' (kL (.ofNat 0)), ev ρ' (kL (.ofNat 0))] from ?_)
    rw [ev_k, ev_k]
    exact pn17_mk (occ0 _ _ _ _ _)
  · cases h
noncomputable def fN18 (l1 l2 : Nat) : HF := fun _ lv A pr nx tab fs => match slotR lv A [], alGet l1 lv, alGet l2 lv with
  | some (x, y), some (.inl (false, f)), some (.inl (false, l)) => addsP [(18, [x, y], [kL (.ofNat 0), f, l])] A pr nx tab fs
  | _, _, _ => none
theorem fN18_ok (l1 l2 : Nat) : HFOk PPk (fN18 l1 l2) := by
  intro pc lv A pr nx tab fs L ρ clv cσ h hr hp
  unfold fN18 at h
  split at h
  · rename_i x y f l _ _ _
    refine addsP_ok h (hrA hr) hp fun ρ' _ p hq => ?_
    rw [List.mem_singleton.mp hq]
    exact (show PPn 18 [arrI (cσ.getD x (.inl (0, []))), arrI (cσ.getD y (.inl (0, [])))] [ev ρ' (kL (.ofNat 0)), ev ρ' f, ev ρ' l] from Or.inl ⟨rfl, 0, by rw [ev_k]; rfl, fun i hi => absurd hi (Nat.not_lt_zero _)⟩)
  · cases h
noncomputable def fN20 (g b l1 l2 : Nat) : HF := fun _ lv A pr nx tab fs => match rowF lv A g, alGet l1 lv, alGet l2 lv with
  | some q, some (.inl (false, f)), some (.inl (false, l)) => addsP [(20, [q], [kL (.ofNat b), kL (.ofNat 0), f, l])] A pr nx tab fs
  | _, _, _ => none
theorem fN20_ok (g b l1 l2 : Nat) : HFOk PPk (fN20 g b l1 l2) := by
  intro pc lv A pr nx tab fs L ρ clv cσ h hr hp
  unfold fN20 at h
  split at h
  · rename_i q f l _ _ _
    refine addsP_ok h (hrA hr) hp fun ρ' _ p hq => ?_
    rw [List.mem_singleton.mp hq]
    exact (show PPn 20 [arrI (cσ.getD q (.inl (0, [])))] [ev ρ' (kL (.ofNat b)), ev ρ' (kL (.ofNat 0)), ev ρ' f, ev ρ' l] from ⟨rfl, b, by rw [ev_k]; rfl, 0, by rw [ev_k]; rfl, fun i hi => absurd hi (Nat.not_lt_zero _)⟩)
  · cases h
-- elements told at a place
noncomputable def plE (b s : Nat) (k : Ln) : Ln := pluL (sclL (.ofNat s) k) (.ofNat b)
theorem el7 {ρ : Nat → Int} {tab : Tb} {fs : List Ln} {cσ : SH} {pr : List PD} {q b s m : Nat} {k v : Ln} (ht : tOk ρ tab) (hf : fOk ρ fs) (hp : prOk PPk ρ cσ pr) (hk : ev ρ k = m) (h : findE tab fs q (plE b s k) pr = some v) : slF (arrI (cσ.getD q (.inl (0, [])))) b s m = ev ρ v := by
  obtain ⟨e', hm, he⟩ := findE_ok h
  have h1 : PPn 7 [arrI (cσ.getD q (.inl (0, [])))] [ev ρ e', ev ρ v] := hp _ hm
  rcases h1 with h1 | h1
  · exact absurd h1.1 (by decide)
  · obtain ⟨-, n, e1, e2⟩ := h1
    have e3 := eqL_ok ht hf he
    unfold plE at e3
    rw [ev_plu, ev_scl, hk, e1] at e3
    have e4 : n = b + s * m := by
      have e5 : (Int.ofNat s) * (m : Int) + (Int.ofNat b) = ((b + s * m : Nat) : Int) := by
        rw [Int.ofNat_eq_natCast, Int.ofNat_eq_natCast]
        push_cast
        omega
      rw [e5] at e3
      omega
    rw [e4] at e2
    exact e2
noncomputable def ovT (tab : Tb) (fs : List Ln) (pr : List PD) (qx bx qy bY s : Nat) (k f l : Ln) : Bool := match findE tab fs qx (plE bx s k) pr, findE tab fs qy (plE bY s k) pr with
  | some v, some u => bif le0 tab fs (subL (addL v u) f) then true else le0 tab fs (subL (addL f l) v)
  | _, _ => false
theorem ovT_ok {ρ : Nat → Int} {tab : Tb} {fs : List Ln} {cσ : SH} {pr : List PD} {qx bx qy bY s : Nat} {k f l : Ln} (ht : tOk ρ tab) (hf : fOk ρ fs) (hp : prOk PPk ρ cσ pr) (h : ovT tab fs pr qx bx qy bY s k f l = true) (hn : okNoG (arrI (cσ.getD qx (.inl (0, [])))) (arrI (cσ.getD qy (.inl (0, [])))) bx bY s (ev ρ k) (ev ρ f) (ev ρ l)) : okNoG (arrI (cσ.getD qx (.inl (0, [])))) (arrI (cσ.getD qy (.inl (0, [])))) bx bY s (ev ρ (pluL k 1)) (ev ρ f) (ev ρ l) := by
  obtain ⟨m, m1, m2⟩ := hn
  unfold ovT at h
  split at h
  · rename_i v u hv hu
    have ev1 := el7 ht hf hp m1 hv
    have ev2 := el7 ht hf hp m1 hu
    refine ⟨m + 1, by rw [ev_plu, m1]; rfl, fun i hi => ?_⟩
    rcases Nat.lt_or_ge i m with hlt | hge
    · exact m2 i hlt
    · have ei : i = m := by omega
      subst ei
      rw [ev1, ev2]
      cases z : le0 tab fs (subL (addL v u) f) with
      | true =>
        have := le0_ok ht hf z
        rw [ev_sub, ev_add] at this
        exact Or.inl (by omega)
      | false =>
        rw [z, cond_false] at h
        have := le0_ok ht hf h
        rw [ev_sub, ev_add] at this
        exact Or.inr (by omega)
  · cases h
noncomputable def ov1 (tab : Tb) (fs : List Ln) (pr : List PD) (p : PD) : Option PD := match p.2.1, p.2.2 with
  | [x, y], [k, f, l] => bif Nat.beq p.1 18 then (bif ovT tab fs pr x 0 y 0 1 k f l then some (18, [x, y], [pluL k 1, f, l]) else none) else none
  | [q], [(.ofNat b, []), k, f, l] => bif Nat.beq p.1 20 then (bif ovT tab fs pr q (Nat.add b 1) q (Nat.add b 2) 3 k f l then some (20, [q], [kL (.ofNat b), pluL k 1, f, l]) else none) else none
  | _, _ => none
theorem pn18 {ρ : Nat → Int} {cσ : SH} {pr : List PD} {x y : Nat} {k f l : Ln} (h : prOk PPk ρ cσ pr) (hm : (18, [x, y], [k, f, l]) ∈ pr) : okNoG (arrI (cσ.getD x (.inl (0, [])))) (arrI (cσ.getD y (.inl (0, [])))) 0 0 1 (ev ρ k) (ev ρ f) (ev ρ l) := (show PPn 18 [arrI (cσ.getD x (.inl (0, []))), arrI (cσ.getD y (.inl (0, [])))] [ev ρ k, ev ρ f, ev ρ l] from h _ hm).elim (fun x => x.2) (fun x => absurd x.1 (by decide))
theorem pn20 {ρ : Nat → Int} {cσ : SH} {pr : List PD} {q b : Nat} {k f l : Ln} (h : prOk PPk ρ cσ pr) (hm : (20, [q], [(.ofNat b, []), k, f, l]) ∈ pr) : okNoG (arrI (cσ.getD q (.inl (0, [])))) (arrI (cσ.getD q (.inl (0, [])))) (b + 1) (b + 2) 3 (ev ρ k) (ev ρ f) (ev ρ l) := by
  obtain ⟨-, c, e, h2⟩ := (show PPn 20 [arrI (cσ.getD q (.inl (0, [])))] [ev ρ (.ofNat b, []), ev ρ k, ev ρ f, ev ρ l] from h _ hm)
  rw [show ev ρ ((.ofNat b, []) : Ln) = (b : Int) from ev_k ρ b] at e
  have ec : c = b := by omega
  rw [ec] at h2
  exact h2
theorem ov1_ok {ρ : Nat → Int} {tab : Tb} {fs : List Ln} {cσ : SH} {pr : List PD} (ht : tOk ρ tab) (hf : fOk ρ fs) (hp : prOk PPk ρ cσ pr) : prOk PPk ρ cσ (pr.filterMap (ov1 tab fs pr)) := fun p hq => by
  obtain ⟨p0, hm, hq⟩ := List.mem_filterMap.mp hq
  unfold ov1 at hq
  split at hq
  · rename_i x y k f l h1 h2
    obtain ⟨k0, l0, ns0⟩ := p0
    try dsimp only at h1 h2 hq
    subst h1; subst h2
    cases z0 : Nat.beq k0 18 with
    | false => rw [z0] at hq; cases hq
    | true =>
      rw [z0, cond_true] at hq
      have ek := Nat.eq_of_beq_eq_true z0
      subst ek
      cases z : ovT tab fs pr x 0 y 0 1 k f l with
      | false => rw [z] at hq; cases hq
      | true =>
        rw [z] at hq
        cases hq
        exact (show PPn 18 [arrI (cσ.getD x (.inl (0, []))), arrI (cσ.getD y (.inl (0, [])))] [ev ρ (pluL k 1), ev ρ f, ev ρ l] from Or.inl ⟨rfl, ovT_ok ht hf hp z (pn18 hp hm)⟩)
  · rename_i q b k f l h1 h2
    obtain ⟨k0, l0, ns0⟩ := p0
    try dsimp only at h1 h2 hq
    subst h1; subst h2
    cases z0 : Nat.beq k0 20 with
    | false => rw [z0] at hq; cases hq
    | true =>
      rw [z0, cond_true] at hq
      have ek := Nat.eq_of_beq_eq_true z0
      subst ek
      cases z : ovT tab fs pr q (Nat.add b 1) q (Nat.add b 2) 3 k f l with
      | false => rw [z] at hq; cases hq
      | true =>
        rw [z] at hq
        cases hq
        exact (show PPn 20 [arrI (cσ.getD q (.inl (0, [])))] [ev ρ (kL (.ofNat b)), ev ρ (pluL k 1), ev ρ f, ev ρ l] from ⟨rfl, b, by rw [ev_k]; rfl, ovT_ok ht hf hp z (pn20 hp hm)⟩)
  · cases hq
noncomputable def fOv : HF := fun _ _ A pr nx tab fs => addsP (pr.filterMap (ov1 tab fs pr)) A pr nx tab fs
theorem fOv_ok : HFOk PPk fOv := by
  intro pc lv A pr nx tab fs L ρ clv cσ h hr hp
  exact addsP_ok h (hrA hr) hp fun ρ' ha => ov1_ok (hr ρ' ha).1 (hr ρ' ha).2.1 (hp ρ' ha)
-- whether there is room
noncomputable def roomV (tab : Tb) (fs : List Ln) (pr : List PD) (qx bx qy bY s : Nat) (n k f l : Ln) : Option Bool := bif le0 tab fs (subL (kL (.ofNat 41)) (addL f l)) then some false else bif (bif eqL tab fs k n then le0 tab fs (subL (addL f l) (kL (.ofNat 40))) else false) then some true else (match findE tab fs qx (plE bx s k) pr, findE tab fs qy (plE bY s k) pr with
  | some v, some u => bif (bif le0 tab fs (subL (pluL f 1) (addL v u)) then (bif le0 tab fs (subL (pluL v 1) (addL f l)) then (bif le0 tab fs (subL (pluL k 1) n) then le0 tab fs (subL (kL (.ofNat 1)) l) else false) else false) else false) then some false else none
  | _, _ => none)
theorem roomV_ok {ρ : Nat → Int} {tab : Tb} {fs : List Ln} {cσ : SH} {pr : List PD} {qx bx qy bY s : Nat} {n o k f l : Ln} {v : Bool} (ht : tOk ρ tab) (hf : fOk ρ fs) (hp : prOk PPk ρ cσ pr) (h : roomV tab fs pr qx bx qy bY s n k f l = some v) (ho : okOccG (arrI (cσ.getD qx (.inl (0, [])))) (arrI (cσ.getD qy (.inl (0, [])))) bx bY s (ev ρ n) (ev ρ o)) (hn : okNoG (arrI (cσ.getD qx (.inl (0, [])))) (arrI (cσ.getD qy (.inl (0, [])))) bx bY s (ev ρ k) (ev ρ f) (ev ρ l)) : v = true ↔ isRoom (ev ρ o) (ev ρ f) (ev ρ l) := by
  obtain ⟨m, w, m1, m2, m3, m4, m5⟩ := ho
  obtain ⟨c, c1, c2⟩ := hn
  unfold roomV at h
  cases z1 : le0 tab fs (subL (kL (.ofNat 41)) (addL f l)) with
  | true =>
    rw [z1] at h
    cases h
    have h1 := le0_ok ht hf z1
    rw [ev_sub, ev_k, ev_add] at h1
    have e41 : (Int.ofNat 41) = 41 := rfl
    rw [e41] at h1
    exact ⟨fun h => (by cases h), fun h => (by have := h.1; omega)⟩
  | false =>
    rw [z1, cond_false] at h
    cases z2 : (bif eqL tab fs k n then le0 tab fs (subL (addL f l) (kL (.ofNat 40))) else false) with
    | true =>
      rw [z2, cond_true] at h
      cases h
      obtain ⟨y1, y2⟩ := cand z2
      have h1 := eqL_ok ht hf y1
      have h2 := le0_ok ht hf y2
      rw [ev_sub, ev_k, ev_add] at h2
      have e40 : (Int.ofNat 40) = 40 := rfl
      rw [e40] at h2
      have hcm : c = m := by omega
      subst hcm
      refine ⟨fun _ => ⟨by omega, w, m2, fun j j1 j2 => ?_⟩, fun _ => rfl⟩
      cases hb : w.testBit j with
      | false => rfl
      | true =>
        obtain ⟨i, i1, i2, i3⟩ := (m5 j).mp hb
        have := c2 i i1
        omega
    | false =>
      rw [z2, cond_false] at h
      split at h
      · rename_i v' u hv hu
        cases z3 : (bif le0 tab fs (subL (pluL f 1) (addL v' u)) then (bif le0 tab fs (subL (pluL v' 1) (addL f l)) then (bif le0 tab fs (subL (pluL k 1) n) then le0 tab fs (subL (kL (.ofNat 1)) l) else false) else false) else false) with
        | false => rw [z3] at h; cases h
        | true =>
          rw [z3] at h
          cases h
          obtain ⟨y1, y2⟩ := cand z3
          obtain ⟨y3, y4⟩ := cand y2
          obtain ⟨y4, y5⟩ := cand y4
          have g1 := le0_ok ht hf y1
          have g4 := le0_ok ht hf y5
          rw [ev_sub, ev_k] at g4
          have e11 : (Int.ofNat 1) = 1 := rfl
          rw [e11] at g4
          have g2 := le0_ok ht hf y3
          have g3 := le0_ok ht hf y4
          rw [ev_sub, ev_plu, ev_add] at g1 g2
          rw [ev_sub, ev_plu] at g3
          have e1 := el7 ht hf hp c1 hv
          have e2 := el7 ht hf hp c1 hu
          have hcm : c < m := by omega
          have v0 := (m4 c hcm).2.1
          rw [e1] at v0
          have u0 := (m4 c hcm).2.2
          rw [e2] at u0
          refine ⟨fun h => (by cases h), fun hR => ?_⟩
          exfalso
          obtain ⟨-, w', w1, w2⟩ := hR
          have hww : w' = w := by omega
          subst hww
          obtain ⟨j, hj⟩ : ∃ j : Nat, (j : Int) = max (ev ρ f) (ev ρ v') := ⟨(max (ev ρ f) (ev ρ v')).toNat, by omega⟩
          have hb := (m5 j).mpr ⟨c, hcm, by rw [e1]; omega, by rw [e1, e2]; omega⟩
          have := w2 j (by omega) (by omega)
          rw [hb] at this
          cases this
      · cases h
noncomputable def rmP (tab : Tb) (fs : List Ln) (pr : List PD) (p q : PD) : Option (Ln × Ln × Ln × Bool) := match p.2.1, p.2.2, q.2.1, q.2.2 with
  | [x, y], [n, o], [x', y'], [k, f, l] => bif (bif Nat.beq p.1 16 then (bif Nat.beq q.1 18 then (bif Nat.beq x x' then Nat.beq y y' else false) else false) else false) then (match roomV tab fs pr x 0 y 0 1 n k f l with
    | some v => some (o, f, l, v)
    | none => none) else none
  | [x], [(.ofNat b, []), n, o], [x'], [(.ofNat b', []), k, f, l] => bif (bif Nat.beq p.1 17 then (bif Nat.beq q.1 20 then (bif Nat.beq x x' then Nat.beq b b' else false) else false) else false) then (match roomV tab fs pr x (Nat.add b 1) x (Nat.add b 2) 3 n k f l with
    | some v => some (o, f, l, v)
    | none => none) else none
  | _, _, _, _ => none
theorem rmP_ok {ρ : Nat → Int} {tab : Tb} {fs : List Ln} {cσ : SH} {pr : List PD} {p q : PD} {o f l : Ln} {v : Bool} (ht : tOk ρ tab) (hf : fOk ρ fs) (hp : prOk PPk ρ cσ pr) (h1 : p ∈ pr) (h2 : q ∈ pr) (h : rmP tab fs pr p q = some (o, f, l, v)) : v = true ↔ isRoom (ev ρ o) (ev ρ f) (ev ρ l) := by
  unfold rmP at h
  split at h
  · rename_i x y n o' x' y' k f' l' a1 a2 a3 a4
    obtain ⟨k0, l0, ns0⟩ := p
    obtain ⟨k1, l1, ns1⟩ := q
    try dsimp only at a1 a2 a3 a4 h
    subst a1; subst a2; subst a3; subst a4
    cases z : (bif Nat.beq k0 16 then (bif Nat.beq k1 18 then (bif Nat.beq x x' then Nat.beq y y' else false) else false) else false) with
    | false => rw [z] at h; cases h
    | true =>
      rw [z, cond_true] at h
      obtain ⟨y1, z⟩ := cand z
      obtain ⟨y2, z⟩ := cand z
      obtain ⟨y3, y4⟩ := cand z
      have e1 := Nat.eq_of_beq_eq_true y1
      have e2 := Nat.eq_of_beq_eq_true y2
      have e3 := Nat.eq_of_beq_eq_true y3
      have e4 := Nat.eq_of_beq_eq_true y4
      subst e1; subst e2; subst e3; subst e4
      split at h
      · rename_i v' hv
        cases h
        exact roomV_ok ht hf hp hv (pn16 hp h1) (pn18 hp h2)
      · cases h
  · rename_i x b n o' x' b' k f' l' a1 a2 a3 a4
    obtain ⟨k0, l0, ns0⟩ := p
    obtain ⟨k1, l1, ns1⟩ := q
    try dsimp only at a1 a2 a3 a4 h
    subst a1; subst a2; subst a3; subst a4
    cases z : (bif Nat.beq k0 17 then (bif Nat.beq k1 20 then (bif Nat.beq x x' then Nat.beq b b' else false) else false) else false) with
    | false => rw [z] at h; cases h
    | true =>
      rw [z, cond_true] at h
      obtain ⟨y1, z⟩ := cand z
      obtain ⟨y2, z⟩ := cand z
      obtain ⟨y3, y4⟩ := cand z
      have e1 := Nat.eq_of_beq_eq_true y1
      have e2 := Nat.eq_of_beq_eq_true y2
      have e3 := Nat.eq_of_beq_eq_true y3
      have e4 := Nat.eq_of_beq_eq_true y4
      subst e1; subst e2; subst e3; subst e4
      split at h
      · rename_i v' hv
        cases h
        exact roomV_ok ht hf hp hv (pn17 hp h1) (pn20 hp h2)
      · cases h
  · cases h
noncomputable def f14 (k : Nat) (tab : Tb) (fs : List Ln) (o f l : Ln) (p : PD) : Option Ln := match p.2.1, p.2.2 with
  | [], [w, x, y, r] => bif Nat.beq p.1 k then (bif (bif eqL tab fs w o then (bif eqL tab fs x f then eqL tab fs y l else false) else false) then some r else none) else none
  | _, _ => none
theorem f14_inv {k : Nat} {tab : Tb} {fs : List Ln} {o f l r : Ln} {p : PD} (h : f14 k tab fs o f l p = some r) : ∃ w x y, p = (k, [], [w, x, y, r]) ∧ eqL tab fs w o = true ∧ eqL tab fs x f = true ∧ eqL tab fs y l = true := by
  unfold f14 at h
  split at h
  · rename_i w x y r' h1 h2
    obtain ⟨k0, l0, ns0⟩ := p
    try dsimp only at h1 h2 h
    subst h1; subst h2
    cases z0 : Nat.beq k0 k with
    | false => rw [z0] at h; cases h
    | true =>
      rw [z0, cond_true] at h
      have ek := Nat.eq_of_beq_eq_true z0
      subst ek
      cases z : (bif eqL tab fs w o then (bif eqL tab fs x f then eqL tab fs y l else false) else false) with
      | false => rw [z] at h; cases h
      | true =>
        rw [z] at h
        cases h
        obtain ⟨y1, z⟩ := cand z
        obtain ⟨y2, y3⟩ := cand z
        exact ⟨w, x, y, rfl, y1, y2, y3⟩
  · cases h
noncomputable def rmS (tab : Tb) (fs : List Ln) (pr : List PD) : Option (Ln × Ln × Ln × Bool) := pr.findSome? (fun p => pr.findSome? (rmP tab fs pr p))
noncomputable def fRm : HF := fun _ _ A pr nx tab fs => match rmS tab fs pr with
  | some (o, f, l, v) => (match pr.findSome? (f14 14 tab fs o f l) with
    | some r => (match cst tab r with
      | some k => bif eqI k (bif v then .ofNat 1 else .ofNat 0) then none else some []
      | none => none)
    | none => addsP [(14, [], [o, f, l, kL (bif v then .ofNat 1 else .ofNat 0)])] A pr nx tab fs)
  | none => none
theorem fRm_ok : HFOk PPk fRm := by
  intro pc lv A pr nx tab fs L ρ clv cσ h hr hp
  unfold fRm at h
  split at h
  · rename_i o f l v hv
    obtain ⟨p, hm, hp2⟩ := List.exists_of_findSome?_eq_some hv
    obtain ⟨q, hm2, hq⟩ := List.exists_of_findSome?_eq_some hp2
    have key : ∀ ρ', agr2 nx ρ ρ' → (v = true ↔ isRoom (ev ρ' o) (ev ρ' f) (ev ρ' l)) := fun ρ' ha => rmP_ok (hr ρ' ha).1 (hr ρ' ha).2.1 (hp ρ' ha) hm hm2 hq
    split at h
    · rename_i r hr1
      split at h
      · rename_i k hk
        cases z : eqI k (bif v then .ofNat 1 else .ofNat 0) with
        | true => rw [z] at h; cases h
        | false =>
          exfalso
          obtain ⟨p3, hm3, h3⟩ := List.exists_of_findSome?_eq_some hr1
          obtain ⟨w, x, y, rfl, y1, y2, y3⟩ := f14_inv h3
          obtain ⟨t1, t2, -, -⟩ := hr ρ agr2.rf
          have h4 : okRoom (ev ρ w) (ev ρ x) (ev ρ y) (ev ρ r) := (show PPn 14 [] [ev ρ w, ev ρ x, ev ρ y, ev ρ r] from hp ρ agr2.rf _ hm3).elim (fun x => x.2) (fun x => absurd x.1 (by decide))
          rw [eqL_ok t1 t2 y1, eqL_ok t1 t2 y2, eqL_ok t1 t2 y3, cst_ok t1 hk] at h4
          have h5 := key ρ agr2.rf
          cases v with
          | true =>
            rcases h4 with h4 | h4
            · rw [h4.1] at z; cases z
            · exact h4.2 (h5.mp rfl)
          | false =>
            rcases h4 with h4 | h4
            · have := h5.mpr h4.2
              cases this
            · rw [h4.1] at z; cases z
      · cases h
    · refine addsP_ok h (hrA hr) hp fun ρ' ha p hq => ?_
      rw [List.mem_singleton.mp hq]
      refine (show PPn 14 [] [ev ρ' o, ev ρ' f, ev ρ' l, ev ρ' (kL (bif v then .ofNat 1 else .ofNat 0))] from Or.inl ⟨rfl, ?_⟩)
      rw [ev_k]
      have h5 := key ρ' ha
      cases v with
      | true => exact Or.inl ⟨rfl, h5.mp rfl⟩
      | false => exact Or.inr ⟨rfl, fun h => absurd (h5.mpr h) Bool.false_ne_true⟩
  · cases h
/-- the element ahead of the place in loc -/
noncomputable def fExm (f loc : Nat) : HF := fun _ lv A pr nx tab fs => match rowF lv A f, cstAt loc lv A tab with
  | some q, some (c + 1) => (match cellB tab A q c with
    | some (lo, hi) => allCases A pr nx tab fs [[(q, c, lo, hi)]]
    | none => none)
  | _, _ => none
theorem fExm_ok (f loc : Nat) : HFOk PPk (fExm f loc) := by
  intro pc lv A pr nx tab fs L ρ clv cσ h hr hp
  have hr' : ∀ ρ', agr2 nx ρ ρ' → tOk ρ' tab ∧ fOk ρ' fs ∧ rel2 (crel ρ') cσ A := fun ρ' ha => ⟨(hr ρ' ha).1, (hr ρ' ha).2.1, (hr ρ' ha).2.2.2⟩
  unfold fExm at h
  split at h
  · split at h
    · rename_i lo hi hc
      have hb := cellB_ok (hr ρ agr2.rf).1 (hr ρ agr2.rf).2.2.2 hc
      exact allCases_ok hr' hp _ L h ⟨_, List.mem_cons_self, List.forall_mem_cons.mpr ⟨el_of hb.1 hb.2.1 hb.2.2, fun _ hh => (by cases hh)⟩⟩
    · cases h
  · cases h
-- a slot put between others
noncomputable def lenA (A : AH) (q : Nat) : Nat := match A[q]? with
  | some (.inr (k, .inl s)) => bif Nat.blt k 100 then sgLen s else 0
  | _ => 0
theorem lenA_ok {ρ : Nat → Int} {cσ : SH} {A : AH} {q n : Nat} (hA : rel2 (crel ρ) cσ A) (h : n < lenA A q) : n < (arrI (cσ.getD q (.inl (0, [])))).length := by
  unfold lenA at h
  split at h
  · rename_i k s hq
    cases z : Nat.blt k 100 with
    | false => rw [z] at h; exact absurd h (Nat.not_lt_zero _)
    | true =>
      rw [z, cond_true] at h
      obtain ⟨c, c1, c2⟩ := rel2_get hA hq
      obtain ⟨l, e1, e2⟩ := crI_inv (blt_iff.mp z) c2
      subst e1
      have aD : arrI (cσ.getD q (.inl (0, []))) = l := by
        rw [List.getD_eq_getElem?_getD, c1]
        rfl
      rw [aD, srel_len e2]
      exact h
  · exact absurd h (Nat.not_lt_zero _)
noncomputable def xa1 (A : AH) (tab : Tb) (p : PD) : Option PD := match p.2.1, p.2.2 with
  | [x, y], [n, o] => bif Nat.beq p.1 16 then (match cst tab n with
    | some (.ofNat c) => bif (bif Nat.ble c 7 then (bif Nat.blt c (lenA A x) then Nat.blt c (lenA A y) else false) else false) then some (19, [x, y], [kL (.ofNat c), kL (.ofNat c), o]) else none
    | _ => none) else none
  | _, _ => none
theorem xa1_ok {ρ : Nat → Int} {tab : Tb} {cσ : SH} {A : AH} {pr : List PD} (ht : tOk ρ tab) (hA : rel2 (crel ρ) cσ A) (hp : prOk PPk ρ cσ pr) : prOk PPk ρ cσ (pr.filterMap (xa1 A tab)) := fun p hq => by
  obtain ⟨p0, hm, hq⟩ := List.mem_filterMap.mp hq
  unfold xa1 at hq
  split at hq
  · rename_i x y n o h1 h2
    obtain ⟨k0, l0, ns0⟩ := p0
    try dsimp only at h1 h2 hq
    subst h1; subst h2
    cases z0 : Nat.beq k0 16 with
    | false => rw [z0] at hq; cases hq
    | true =>
      rw [z0, cond_true] at hq
      have ek := Nat.eq_of_beq_eq_true z0
      subst ek
      split at hq
      · rename_i c hc
        cases z : (bif Nat.ble c 7 then (bif Nat.blt c (lenA A x) then Nat.blt c (lenA A y) else false) else false) with
        | false => rw [z] at hq; cases hq
        | true =>
          rw [z] at hq
          cases hq
          obtain ⟨z1, z2⟩ := cand z
          obtain ⟨z3, z4⟩ := cand z2
          obtain ⟨m, w, m1, m2, m3, m4, m5⟩ := pn16 hp hm
          rw [cst_ok ht hc] at m1
          have m1' : (c : Int) = (m : Int) := m1
          have em : m = c := by omega
          subst em
          refine (show PPn 19 [arrI (cσ.getD x (.inl (0, []))), arrI (cσ.getD y (.inl (0, [])))] [ev ρ (kL (.ofNat m)), ev ρ (kL (.ofNat m)), ev ρ o] from Or.inr ⟨rfl, m, m, w, by rw [ev_k]; rfl, by rw [ev_k]; rfl, m2, Nat.le_refl _, Nat.le_of_ble_eq_true z1, ⟨lenA_ok hA (blt_iff.mp z3), lenA_ok hA (blt_iff.mp z4)⟩, fun i hi hne => (m4 i (by omega)).2, fun j => ?_⟩)
          rw [m5 j]
          constructor
          · rintro ⟨i, i1, i2⟩
            exact ⟨i, ⟨by omega, by omega⟩, i2⟩
          · rintro ⟨i, i1, i2⟩
            exact ⟨i, by omega, i2⟩
      · cases hq
  · cases hq
noncomputable def fXa : HF := fun _ _ A pr nx tab fs => addsP (pr.filterMap (xa1 A tab)) A pr nx tab fs
theorem fXa_ok : HFOk PPk fXa := by
  intro pc lv A pr nx tab fs L ρ clv cσ h hr hp
  exact addsP_ok h (hrA hr) hp fun ρ' ha => xa1_ok (hr ρ' ha).1 (hr ρ' ha).2.2.2 (hp ρ' ha)
theorem pn19 {ρ : Nat → Int} {cσ : SH} {pr : List PD} {x y : Nat} {k f l : Ln} (h : prOk PPk ρ cσ pr) (hm : (19, [x, y], [k, f, l]) ∈ pr) : okExG (arrI (cσ.getD x (.inl (0, [])))) (arrI (cσ.getD y (.inl (0, [])))) (ev ρ k) (ev ρ f) (ev ρ l) := (show PPn 19 [arrI (cσ.getD x (.inl (0, []))), arrI (cσ.getD y (.inl (0, [])))] [ev ρ k, ev ρ f, ev ρ l] from h _ hm).elim (fun x => absurd x.1 (by decide)) (fun x => x.2)
noncomputable def xs1 (A : AH) (tab : Tb) (fs : List Ln) (p : PD) : Option PD := match p.2.1, p.2.2 with
  | [x, y], [(.ofNat (c + 1), []), n, o] => bif Nat.beq p.1 19 then (match elA A x (c + 1), elA A x c, elA A y (c + 1), elA A y c with
    | some e1, some e2, some e3, some e4 => bif (bif eqL tab fs e1 e2 then eqL tab fs e3 e4 else false) then some (19, [x, y], [kL (.ofNat c), n, o]) else none
    | _, _, _, _ => none) else none
  | _, _ => none
theorem xs1_ok {ρ : Nat → Int} {tab : Tb} {fs : List Ln} {cσ : SH} {A : AH} {pr : List PD} (ht : tOk ρ tab) (hf : fOk ρ fs) (hA : rel2 (crel ρ) cσ A) (hp : prOk PPk ρ cσ pr) : prOk PPk ρ cσ (pr.filterMap (xs1 A tab fs)) := fun p hq => by
  obtain ⟨p0, hm, hq⟩ := List.mem_filterMap.mp hq
  unfold xs1 at hq
  split at hq
  · rename_i x y c n o h1 h2
    obtain ⟨k0, l0, ns0⟩ := p0
    try dsimp only at h1 h2 hq
    subst h1; subst h2
    cases z0 : Nat.beq k0 19 with
    | false => rw [z0] at hq; cases hq
    | true =>
      rw [z0, cond_true] at hq
      have ek := Nat.eq_of_beq_eq_true z0
      subst ek
      split at hq
      · rename_i e1 e2 e3 e4 he1 he2 he3 he4
        cases z : (bif eqL tab fs e1 e2 then eqL tab fs e3 e4 else false) with
        | false => rw [z] at hq; cases hq
        | true =>
          rw [z] at hq
          cases hq
          obtain ⟨z1, z2⟩ := cand z
          obtain ⟨c', m, w, m1, m2, m3, m4, m5, m6, m7, m8⟩ := pn19 hp hm
          rw [show ev ρ ((.ofNat (c + 1), []) : Ln) = ((c + 1 : Nat) : Int) from ev_k ρ ((c + 1 : Nat) : Int)] at m1
          have ec : c' = c + 1 := by omega
          subst ec
          have s0 : ∀ (l : List Int32) (i : Nat), slF l 0 1 i = gI l i := fun l i => by
            unfold slF
            rw [Nat.zero_add, Nat.one_mul]
          have hx : slF (arrI (cσ.getD x (.inl (0, [])))) 0 1 (c + 1) = slF (arrI (cσ.getD x (.inl (0, [])))) 0 1 c := by
            rw [s0, s0, (elA_ok hA he1).2, (elA_ok hA he2).2, eqL_ok ht hf z1]
          have hy : slF (arrI (cσ.getD y (.inl (0, [])))) 0 1 (c + 1) = slF (arrI (cσ.getD y (.inl (0, [])))) 0 1 c := by
            rw [s0, s0, (elA_ok hA he3).2, (elA_ok hA he4).2, eqL_ok ht hf z2]
          refine (show PPn 19 [arrI (cσ.getD x (.inl (0, []))), arrI (cσ.getD y (.inl (0, [])))] [ev ρ (kL (.ofNat c)), ev ρ n, ev ρ o] from Or.inr ⟨rfl, c, m, w, by rw [ev_k]; rfl, m2, m3, by omega, m5, m6, fun i hi hne => ?_, fun j => ?_⟩)
          · rcases Nat.decEq i (c + 1) with hc | hc
            · exact m7 i hi hc
            · subst hc
              rw [hx, hy]
              exact m7 c (by omega) (by omega)
          · rw [m8 j]
            constructor
            · rintro ⟨i, i1, i2, i3⟩
              rcases Nat.decEq i c with hc | hc
              · exact ⟨i, ⟨i1.1, hc⟩, i2, i3⟩
              · subst hc
                exact ⟨i + 1, ⟨m4, by omega⟩, by rw [hx]; exact i2, by rw [hx, hy]; exact i3⟩
            · rintro ⟨i, i1, i2, i3⟩
              rcases Nat.decEq i (c + 1) with hc | hc
              · exact ⟨i, ⟨i1.1, hc⟩, i2, i3⟩
              · subst hc
                exact ⟨c, ⟨by omega, by omega⟩, by rw [← hx]; exact i2, by rw [← hx, ← hy]; exact i3⟩
      · cases hq
  · cases hq
noncomputable def fXs : HF := fun _ _ A pr nx tab fs => addsP (pr.filterMap (xs1 A tab fs)) A pr nx tab fs
theorem fXs_ok : HFOk PPk fXs := by
  intro pc lv A pr nx tab fs L ρ clv cσ h hr hp
  exact addsP_ok h (hrA hr) hp fun ρ' ha => xs1_ok (hr ρ' ha).1 (hr ρ' ha).2.1 (hr ρ' ha).2.2.2 (hp ρ' ha)
-- the ticks with those of one more
noncomputable def orH (mk : Ln → PD) (o f t : Ln) (A : AH) (pr : List PD) (nx : Nat) (tab : Tb) (fs : List Ln) : Option (List HR) := match pr.findSome? (f14 15 tab fs o f t) with
  | some u => addsP [mk u] A pr nx tab fs
  | none => some [(A, mk (sL nx) :: (15, [], [o, f, t, sL nx]) :: pr, Nat.succ nx, tab, fs)]
theorem orW (W F T : Nat) (j : Nat) : (W ||| ((2 ^ T - 1) <<< F)).testBit j = true ↔ (W.testBit j = true ∨ (F ≤ j ∧ j < F + T)) := by
  rw [Nat.testBit_or, Nat.testBit_shiftLeft, Nat.testBit_two_pow_sub_one, Bool.or_eq_true, Bool.and_eq_true, decide_eq_true_eq, decide_eq_true_eq]
  constructor
  · rintro (h | h)
    · exact Or.inl h
    · exact Or.inr ⟨h.1, by omega⟩
  · rintro (h | h)
    · exact Or.inl h
    · exact Or.inr ⟨h.1, by omega⟩
theorem orH_ok {mk : Ln → PD} {o f t : Ln} {A : AH} {pr : List PD} {nx : Nat} {tab : Tb} {fs : List Ln} {L : List HR} {ρ : Nat → Int} {cσ : SH} {W F T : Nat} (h : orH mk o f t A pr nx tab fs = some L) (hr : ∀ ρ', agr2 nx ρ ρ' → tOk ρ' tab ∧ fOk ρ' fs ∧ rel2 (crel ρ') cσ A) (hp : ∀ ρ', agr2 nx ρ ρ' → prOk PPk ρ' cσ pr) (ho : ∀ ρ', agr2 nx ρ ρ' → ev ρ' o = W ∧ ev ρ' f = F ∧ ev ρ' t = T) (hm : ∀ ρ', agr2 nx ρ ρ' → ∀ (u : Ln) (U : Nat), ev ρ' u = U → (∀ j : Nat, U.testBit j = true ↔ (W.testBit j = true ∨ (F ≤ j ∧ j < F + T))) → PPk (mk u).1 ((mk u).2.1.map (fun i => arrI (cσ.getD i (.inl (0, []))))) ((mk u).2.2.map (ev ρ'))) : ∃ q ∈ L, HGood ρ nx cσ q := by
  unfold orH at h
  split at h
  · rename_i u hu
    refine addsP_ok h hr hp fun ρ' ha p hq => ?_
    rw [List.mem_singleton.mp hq]
    obtain ⟨p3, hm3, h3⟩ := List.exists_of_findSome?_eq_some hu
    obtain ⟨w, x, y, rfl, y1, y2, y3⟩ := f14_inv h3
    have h4 : okOr (ev ρ' w) (ev ρ' x) (ev ρ' y) (ev ρ' u) := (show PPn 15 [] [ev ρ' w, ev ρ' x, ev ρ' y, ev ρ' u] from hp ρ' ha _ hm3).elim (fun x => absurd x.1 (by decide)) (fun x => x.2)
    obtain ⟨t1, t2, -⟩ := hr ρ' ha
    obtain ⟨o1, o2, o3⟩ := ho ρ' ha
    rw [eqL_ok t1 t2 y1, eqL_ok t1 t2 y2, eqL_ok t1 t2 y3, o1, o2, o3] at h4
    obtain ⟨a, b, e1, e2, e3⟩ := h4
    have ea : a = W := by omega
    subst ea
    refine hm ρ' ha u b e2 fun j => ?_
    rw [e3 j]
    constructor
    · rintro (h | h)
      · exact Or.inl h
      · exact Or.inr (by omega)
    · rintro (h | h)
      · exact Or.inl h
      · exact Or.inr (by omega)
  · cases h
    let V : Nat := W ||| ((2 ^ T - 1) <<< F)
    have hag : ∀ {ρ'}, agr2 (Nat.succ nx) (fun j => if j = nx then (V : Int) else ρ j) ρ' → agr2 nx ρ ρ' ∧ ρ' nx = V := fun {ρ'} ha => ⟨fun j hj => (ha j (Nat.lt_succ_of_lt hj)).trans (if_neg (by omega)), (ha nx (Nat.lt_succ_self nx)).trans (if_pos rfl)⟩
    refine ⟨_, List.mem_cons_self, fun j => if j = nx then (V : Int) else ρ j, Nat.le_succ nx, fun j hj => if_neg (by omega), fun ρ' ha => ?_, fun ρ' ha => ?_⟩
    · exact hr ρ' (hag ha).1
    · obtain ⟨ha0, ha1⟩ := hag ha
      obtain ⟨o1, o2, o3⟩ := ho ρ' ha0
      refine List.forall_mem_cons.mpr ⟨hm ρ' ha0 (sL nx) V (by rw [ev_s]; exact ha1) fun j => orW W F T j, List.forall_mem_cons.mpr ⟨?_, hp ρ' ha0⟩⟩
      refine (show PPn 15 [] [ev ρ' o, ev ρ' f, ev ρ' t, ev ρ' (sL nx)] from Or.inr ⟨rfl, W, V, o1, by rw [ev_s]; exact ha1, fun j => ?_⟩)
      rw [orW W F T j, o2, o3]
      constructor
      · rintro (h | h)
        · exact Or.inl h
        · exact Or.inr (by omega)
      · rintro (h | h)
        · exact Or.inl h
        · exact Or.inr (by omega)
noncomputable def xe1 (A : AH) (p : PD) : Option (Nat × Nat × Nat × Ln × Ln × Ln) := match p.2.1, p.2.2 with
  | [x, y], [(.ofNat c, []), (.ofNat m, []), o] => bif Nat.beq p.1 19 then (match elA A x c, elA A y c with
    | some f, some t => some (x, y, m, o, f, t)
    | _, _ => none) else none
  | _, _ => none
noncomputable def fXe : HF := fun _ _ A pr nx tab fs => match pr.findSome? (xe1 A) with
  | some (x, y, m, o, f, t) => bif (bif le0 tab fs (sclL (.negSucc 0) f) then le0 tab fs (subL (kL (.ofNat 1)) t) else false) then orH (fun u => (16, [x, y], [kL (.ofNat (Nat.succ m)), u])) o f t A pr nx tab fs else none
  | none => none
theorem bits_eq {w w' : Nat} {p : Nat → Prop} (h : ∀ j, w.testBit j = true ↔ p j) (h' : ∀ j, w'.testBit j = true ↔ p j) : w' = w := Nat.eq_of_testBit_eq fun j => by
  cases z : w.testBit j with
  | true => exact (h' j).mpr ((h j).mp z)
  | false =>
    cases z' : w'.testBit j with
    | false => rfl
    | true =>
      have := (h j).mpr ((h' j).mp z')
      rw [z] at this
      cases this
theorem fXe_ok : HFOk PPk fXe := by
  intro pc lv A pr nx tab fs L ρ clv cσ h hr hp
  unfold fXe at h
  split at h
  · rename_i x y m o f t hx
    cases z : (bif le0 tab fs (sclL (.negSucc 0) f) then le0 tab fs (subL (kL (.ofNat 1)) t) else false) with
    | false => rw [z] at h; cases h
    | true =>
      rw [z, cond_true] at h
      obtain ⟨z1, z2⟩ := cand z
      obtain ⟨p, hm, hf⟩ := List.exists_of_findSome?_eq_some hx
      unfold xe1 at hf
      split at hf
      · rename_i x' y' c m' o' h1 h2
        obtain ⟨k0, l0, ns0⟩ := p
        try dsimp only at h1 h2 hf
        subst h1; subst h2
        cases z0 : Nat.beq k0 19 with
        | false => rw [z0] at hf; cases hf
        | true =>
          rw [z0, cond_true] at hf
          have ek := Nat.eq_of_beq_eq_true z0
          subst ek
          split at hf
          · rename_i f' t' hf1 ht1
            cases hf
            have s0 : ∀ (l : List Int32) (i : Nat), slF l 0 1 i = gI l i := fun l i => by
              unfold slF
              rw [Nat.zero_add, Nat.one_mul]
            obtain ⟨c', n', W, w1, w2, w3, w4, w5, w6, w7, w8⟩ := pn19 (hp ρ agr2.rf) hm
            have ef := fun ρ' ha => (elA_ok (hr ρ' ha).2.2.2 hf1).2
            have et := fun ρ' ha => (elA_ok (hr ρ' ha).2.2.2 ht1).2
            have p1 := le0_ok (hr ρ agr2.rf).1 (hr ρ agr2.rf).2.1 z1
            have p2 := le0_ok (hr ρ agr2.rf).1 (hr ρ agr2.rf).2.1 z2
            rw [ev_scl, show (Int.negSucc 0) * ev ρ f = - ev ρ f by show (-1) * _ = _; omega] at p1
            rw [ev_sub, ev_k] at p2
            have e1' : (Int.ofNat 1) = 1 := rfl
            rw [e1'] at p2
            obtain ⟨F, hF⟩ : ∃ F : Nat, ev ρ f = F := ⟨(ev ρ f).toNat, by omega⟩
            obtain ⟨T, hT⟩ : ∃ T : Nat, ev ρ t = T := ⟨(ev ρ t).toNat, by omega⟩
            have hFx := ef ρ agr2.rf
            have hTx := et ρ agr2.rf
            rw [hF] at hFx
            rw [hT] at hTx
            rw [show ev ρ ((.ofNat c, []) : Ln) = (c : Int) from ev_k ρ c] at w1
            rw [show ev ρ ((.ofNat m, []) : Ln) = (m : Int) from ev_k ρ m] at w2
            have e1 : c' = c := by omega
            have e2 : n' = m := by omega
            subst e1; subst e2
            refine orH_ok (W := W) (F := F) (T := T) h (hrA hr) hp (fun ρ' ha => ⟨?_, ?_, ?_⟩) fun ρ' ha u U hu hb => ?_
            · obtain ⟨c2, n2, W2, v1, v2, v3, v4, v5, v6, v7, v8⟩ := pn19 (hp ρ' ha) hm
              rw [show ev ρ' ((.ofNat c', []) : Ln) = (c' : Int) from ev_k ρ' c'] at v1
              rw [show ev ρ' ((.ofNat n', []) : Ln) = (n' : Int) from ev_k ρ' n'] at v2
              have e1 : c2 = c' := by omega
              have e2 : n2 = n' := by omega
              subst e1; subst e2
              rw [v3, bits_eq w8 v8]
            · rw [← ef ρ' ha, hFx]
            · rw [← et ρ' ha, hTx]
            · refine (show PPn 16 [arrI (cσ.getD x (.inl (0, []))), arrI (cσ.getD y (.inl (0, [])))] [ev ρ' (kL (.ofNat (Nat.succ n'))), ev ρ' u] from ⟨rfl, n' + 1, U, by rw [ev_k]; rfl, hu, by omega, fun i hi => ?_, fun j => ?_⟩)
              · refine ⟨by omega, ?_⟩
                rcases Nat.decEq i c' with hc | hc
                · exact w7 i (by omega) hc
                · subst hc
                  rw [s0, s0, hFx, hTx]
                  exact ⟨by omega, by omega⟩
              · rw [hb j, w8 j]
                constructor
                · rintro (⟨i, i1, i2⟩ | h)
                  · exact ⟨i, by omega, i2⟩
                  · refine ⟨c', by omega, ?_⟩
                    rw [s0, s0, hFx, hTx]
                    omega
                · rintro ⟨i, i1, i2⟩
                  rcases Nat.decEq i c' with hc | hc
                  · exact Or.inl ⟨i, ⟨by omega, hc⟩, i2⟩
                  · subst hc
                    rw [s0, s0, hFx, hTx] at i2
                    exact Or.inr (by omega)
          · cases hf
      · cases hf
  · cases h
noncomputable def xr1 (A : AH) (p : PD) : Option (Nat × Nat × Nat × Ln × Ln × Ln) := match p.2.1, p.2.2 with
  | [q], [(.ofNat b, []), (.ofNat m, []), o] => bif (bif Nat.beq p.1 17 then Nat.ble m 7 else false) then (match elA A q (Nat.add (Nat.add b 1) (Nat.mul 3 m)), elA A q (Nat.add (Nat.add b 2) (Nat.mul 3 m)) with
    | some f, some t => some (q, b, m, o, f, t)
    | _, _ => none) else none
  | _, _ => none
noncomputable def fXr : HF := fun _ _ A pr nx tab fs => match pr.findSome? (xr1 A) with
  | some (q, b, m, o, f, t) => bif (bif le0 tab fs (sclL (.negSucc 0) f) then le0 tab fs (subL (kL (.ofNat 1)) t) else false) then orH (fun u => (17, [q], [kL (.ofNat b), kL (.ofNat (Nat.succ m)), u])) o f t A pr nx tab fs else none
  | none => none
theorem fXr_ok : HFOk PPk fXr := by
  intro pc lv A pr nx tab fs L ρ clv cσ h hr hp
  unfold fXr at h
  split at h
  · rename_i q b m o f t hx
    cases z : (bif le0 tab fs (sclL (.negSucc 0) f) then le0 tab fs (subL (kL (.ofNat 1)) t) else false) with
    | false => rw [z] at h; cases h
    | true =>
      rw [z, cond_true] at h
      obtain ⟨z1, z2⟩ := cand z
      obtain ⟨p, hm, hf⟩ := List.exists_of_findSome?_eq_some hx
      unfold xr1 at hf
      split at hf
      · rename_i q' b' m' o' h1 h2
        obtain ⟨k0, l0, ns0⟩ := p
        try dsimp only at h1 h2 hf
        subst h1; subst h2
        cases z0 : (bif Nat.beq k0 17 then Nat.ble m' 7 else false) with
        | false => rw [z0] at hf; cases hf
        | true =>
          rw [z0, cond_true] at hf
          obtain ⟨z5, z6⟩ := cand z0
          have h7 := Nat.le_of_ble_eq_true z6
          have ek := Nat.eq_of_beq_eq_true z5
          subst ek
          split at hf
          · rename_i f' t' hf1 ht1
            cases hf
            obtain ⟨n', W, w2, w3, w4, w7, w8⟩ := pn17 (hp ρ agr2.rf) hm
            have ef := fun ρ' ha => elA_ok (hr ρ' ha).2.2.2 hf1
            have et := fun ρ' ha => elA_ok (hr ρ' ha).2.2.2 ht1
            have p1 := le0_ok (hr ρ agr2.rf).1 (hr ρ agr2.rf).2.1 z1
            have p2 := le0_ok (hr ρ agr2.rf).1 (hr ρ agr2.rf).2.1 z2
            rw [ev_scl, show (Int.negSucc 0) * ev ρ f = - ev ρ f by show (-1) * _ = _; omega] at p1
            rw [ev_sub, ev_k] at p2
            have e1' : (Int.ofNat 1) = 1 := rfl
            rw [e1'] at p2
            obtain ⟨F, hF⟩ : ∃ F : Nat, ev ρ f = F := ⟨(ev ρ f).toNat, by omega⟩
            obtain ⟨T, hT⟩ : ∃ T : Nat, ev ρ t = T := ⟨(ev ρ t).toNat, by omega⟩
            have hFx := (ef ρ agr2.rf).2
            have hTx := (et ρ agr2.rf).2
            have hFl := (ef ρ agr2.rf).1
            have hTl := (et ρ agr2.rf).1
            rw [hF] at hFx
            rw [hT] at hTx
            rw [show ev ρ ((.ofNat m, []) : Ln) = (m : Int) from ev_k ρ m] at w2
            have e2 : n' = m := by omega
            subst e2
            have sF : slF (arrI (cσ.getD q (.inl (0, [])))) (b + 1) 3 n' = F := hFx
            have sT : slF (arrI (cσ.getD q (.inl (0, [])))) (b + 2) 3 n' = T := hTx
            have lF : b + 1 + 3 * n' < (arrI (cσ.getD q (.inl (0, [])))).length := hFl
            have lT : b + 2 + 3 * n' < (arrI (cσ.getD q (.inl (0, [])))).length := hTl
            refine orH_ok (W := W) (F := F) (T := T) h (hrA hr) hp (fun ρ' ha => ⟨?_, ?_, ?_⟩) fun ρ' ha u U hu hb => ?_
            · obtain ⟨n2, W2, v2, v3, v4, v7, v8⟩ := pn17 (hp ρ' ha) hm
              rw [show ev ρ' ((.ofNat n', []) : Ln) = (n' : Int) from ev_k ρ' n'] at v2
              have e2 : n2 = n' := by omega
              subst e2
              rw [v3, bits_eq w8 v8]
            · rw [← (ef ρ' ha).2, hFx]
            · rw [← (et ρ' ha).2, hTx]
            · show PPn 17 [arrI (cσ.getD q (.inl (0, [])))] [ev ρ' (kL (.ofNat b)), ev ρ' (kL (.ofNat (Nat.succ n'))), ev ρ' u]
              rw [ev_k, ev_k]
              refine pn17_mk ⟨n' + 1, U, rfl, hu, by omega, fun i hi => ?_, fun j => ?_⟩
              · rcases Nat.lt_or_ge i n' with hlt | hge
                · exact w7 i hlt
                · have ei : i = n' := by omega
                  subst ei
                  rw [sF, sT]
                  exact ⟨⟨lF, lT⟩, by omega, by omega⟩
              · rw [hb j, w8 j]
                constructor
                · rintro (⟨i, i1, i2⟩ | h)
                  · exact ⟨i, by omega, i2⟩
                  · refine ⟨n', by omega, ?_⟩
                    rw [sF, sT]
                    omega
                · rintro ⟨i, i1, i2⟩
                  rcases Nat.lt_or_ge i n' with hlt | hge
                  · exact Or.inl ⟨i, hlt, i2⟩
                  · have ei : i = n' := by omega
                    subst ei
                    rw [sF, sT] at i2
                    exact Or.inr (by omega)
          · cases hf
      · cases hf
  · cases h
/-- how many slots, as the constant that it is -/
noncomputable def cn17 (tab : Tb) (p : PD) : Option PD := match p.2.2 with
  | [n, s] => bif Nat.beq p.1 16 then (match cst tab n with
    | some (.ofNat c) => some (p.1, p.2.1, [kL (.ofNat c), s])
    | _ => none) else none
  | [o, n, s] => bif Nat.beq p.1 17 then (match cst tab n with
    | some (.ofNat c) => some (p.1, p.2.1, [o, kL (.ofNat c), s])
    | _ => none) else none
  | _ => none
theorem cn17_ok {ρ : Nat → Int} {tab : Tb} {cσ : SH} {pr : List PD} (ht : tOk ρ tab) (hp : prOk PPk ρ cσ pr) : prOk PPk ρ cσ (pr.filterMap (cn17 tab)) := fun p hq => by
  obtain ⟨p0, hm, hq⟩ := List.mem_filterMap.mp hq
  have h0 := hp p0 hm
  unfold cn17 at hq
  split at hq
  · rename_i n s hns
    cases z : Nat.beq p0.1 16 with
    | false => rw [z] at hq; cases hq
    | true =>
      rw [z, cond_true] at hq
      split at hq
      · rename_i c hc
        cases hq
        rw [hns] at h0
        show PPk p0.1 _ [ev ρ (kL (.ofNat c)), ev ρ s]
        rw [show ev ρ (kL (.ofNat c)) = ev ρ n by rw [ev_k, cst_ok ht hc]]
        exact h0
      · cases hq
  · rename_i o n s hns
    cases z : Nat.beq p0.1 17 with
    | false => rw [z] at hq; cases hq
    | true =>
      rw [z, cond_true] at hq
      split at hq
      · rename_i c hc
        cases hq
        rw [hns] at h0
        show PPk p0.1 _ [ev ρ o, ev ρ (kL (.ofNat c)), ev ρ s]
        rw [show ev ρ (kL (.ofNat c)) = ev ρ n by rw [ev_k, cst_ok ht hc]]
        exact h0
      · cases hq
  · cases hq
noncomputable def fCn2 : HF := fun _ _ A pr nx tab fs => addsP (pr.filterMap (cn17 tab)) A pr nx tab fs
theorem fCn2_ok : HFOk PPk fCn2 := by
  intro pc lv A pr nx tab fs L ρ clv cσ h hr hp
  exact addsP_ok h (hrA hr) hp fun ρ' ha => cn17_ok (hr ρ' ha).1 (hp ρ' ha)
/-! ===== hints: whether five numbers are a fault ===== -/
noncomputable def isVu (tab : Tb) (fs : List Ln) (hi w : Ln) : Option Bool := bif le0 tab fs (pluL w 1) then some false else bif le0 tab fs (subL hi w) then some false else bif (bif le0 tab fs (sclL (.negSucc 0) w) then le0 tab fs (subL (pluL w 1) hi) else false) then some true else none
theorem isVu_ok {ρ : Nat → Int} {tab : Tb} {fs : List Ln} (ht : tOk ρ tab) (hf : fOk ρ fs) {hi w : Ln} {v : Bool} (h : isVu tab fs hi w = some v) : v = true ↔ (0 ≤ ev ρ w ∧ ev ρ w < ev ρ hi) := by
  unfold isVu at h
  cases z : le0 tab fs (pluL w 1) with
  | true =>
    rw [z] at h
    cases h
    have := le0_ok ht hf z
    rw [ev_plu] at this
    exact ⟨fun h => (by cases h), fun h => (by omega)⟩
  | false =>
    rw [z, cond_false] at h
    cases z2 : le0 tab fs (subL hi w) with
    | true =>
      rw [z2] at h
      cases h
      have := le0_ok ht hf z2
      rw [ev_sub] at this
      exact ⟨fun h => (by cases h), fun h => (by omega)⟩
    | false =>
      rw [z2, cond_false] at h
      cases z3 : (bif le0 tab fs (sclL (.negSucc 0) w) then le0 tab fs (subL (pluL w 1) hi) else false) with
      | false => rw [z3] at h; cases h
      | true =>
        rw [z3] at h
        cases h
        obtain ⟨y1, y2⟩ := cand z3
        have g1 := le0_ok ht hf y1
        have g2 := le0_ok ht hf y2
        rw [ev_scl, show (Int.negSucc 0) * ev ρ w = - ev ρ w by show (-1) * _ = _; omega] at g1
        rw [ev_sub, ev_plu] at g2
        exact ⟨fun _ => ⟨by omega, by omega⟩, fun _ => rfl⟩
noncomputable def isHw (tab : Tb) (fs : List Ln) (so wh la se : Ln) : Option Bool := bif inF tab fs (.ofNat 2) (.ofNat 2) so then isVu tab fs se wh else bif outF tab fs (.ofNat 2) (.ofNat 2) so then isVu tab fs la wh else none
theorem isHw_ok {ρ : Nat → Int} {tab : Tb} {fs : List Ln} (ht : tOk ρ tab) (hf : fOk ρ fs) {so wh la se : Ln} {v : Bool} (h : isHw tab fs so wh la se = some v) : v = true ↔ ((ev ρ so = 2 ∧ 0 ≤ ev ρ wh ∧ ev ρ wh < ev ρ se) ∨ (ev ρ so ≠ 2 ∧ 0 ≤ ev ρ wh ∧ ev ρ wh < ev ρ la)) := by
  unfold isHw at h
  cases z : inF tab fs (.ofNat 2) (.ofNat 2) so with
  | true =>
    rw [z, cond_true] at h
    have h1 := inF_ofN ht hf z
    have h2 := isVu_ok ht hf h
    rw [h2]
    constructor
    · intro h3
      exact Or.inl ⟨by omega, h3⟩
    · rintro (h3 | h3)
      · exact h3.2
      · omega
  | false =>
    rw [z, cond_false] at h
    cases z2 : outF tab fs (.ofNat 2) (.ofNat 2) so with
    | false => rw [z2] at h; cases h
    | true =>
      rw [z2, cond_true] at h
      have h1 := outF_ok ht hf z2
      have e2 : (Int.ofNat 2) = 2 := rfl
      rw [e2] at h1
      have h2 := isVu_ok ht hf h
      rw [h2]
      constructor
      · intro h3
        exact Or.inr ⟨by omega, h3⟩
      · rintro (h3 | h3)
        · omega
        · exact h3.2
noncomputable def isHc (tab : Tb) (fs : List Ln) (so ce bi : Ln) : Option Bool := bif le0 tab fs (subL (kL (.ofNat 2)) so) then some true else bif le0 tab fs (pluL so (.negSucc 0)) then isAnd (isV1 tab fs (.ofNat 0) (.ofNat 11) ce) (isV1 tab fs (.ofNat 0) (.ofNat 31) bi) else none
theorem isHc_ok {ρ : Nat → Int} {tab : Tb} {fs : List Ln} (ht : tOk ρ tab) (hf : fOk ρ fs) {so ce bi : Ln} {v : Bool} (h : isHc tab fs so ce bi = some v) : v = true ↔ (ev ρ so < 2 → (0 ≤ ev ρ ce ∧ ev ρ ce ≤ 11) ∧ (0 ≤ ev ρ bi ∧ ev ρ bi ≤ 31)) := by
  unfold isHc at h
  cases z : le0 tab fs (subL (kL (.ofNat 2)) so) with
  | true =>
    rw [z] at h
    cases h
    have h1 := le0_ok ht hf z
    rw [ev_sub, ev_k] at h1
    have e2 : (Int.ofNat 2) = 2 := rfl
    rw [e2] at h1
    exact ⟨fun _ h3 => (by omega), fun _ => rfl⟩
  | false =>
    rw [z, cond_false] at h
    cases z2 : le0 tab fs (pluL so (.negSucc 0)) with
    | false => rw [z2] at h; cases h
    | true =>
      rw [z2, cond_true] at h
      have h1 := le0_ok ht hf z2
      rw [ev_plu] at h1
      have e2 : (Int.negSucc 0) = -1 := rfl
      rw [e2] at h1
      have h2 := isAnd_ok h (fun u hu => isV1_ok ht hf hu) (fun u hu => isV1_ok ht hf hu)
      have e0 : (Int.ofNat 0) = 0 := rfl
      have e1 : (Int.ofNat 11) = 11 := rfl
      have e3 : (Int.ofNat 31) = 31 := rfl
      rw [e0, e1, e3] at h2
      rw [h2]
      exact ⟨fun h3 _ => h3, fun h3 => h3 (by omega)⟩
noncomputable def isHVal (tab : Tb) (fs : List Ln) (so fr wh ce bi la se : Ln) : Option Bool := isAnd (isV1 tab fs (.ofNat 0) (.ofNat 4) so) (isAnd (isV1 tab fs (.ofNat 0) (.ofNat 9999) fr) (isAnd (isHw tab fs so wh la se) (isHc tab fs so ce bi)))
theorem isHVal_ok {ρ : Nat → Int} {tab : Tb} {fs : List Ln} (ht : tOk ρ tab) (hf : fOk ρ fs) {so fr wh ce bi la se : Ln} {v : Bool} (h : isHVal tab fs so fr wh ce bi la se = some v) : isHF (ev ρ so) (ev ρ fr) (ev ρ wh) (ev ρ ce) (ev ρ bi) (ev ρ la) (ev ρ se) = if v then 1 else 0 := by
  unfold isHVal at h
  have h1 := isAnd_ok h (fun u hu => isV1_ok ht hf hu) (fun u hu => isAnd_ok hu (fun u hu => isV1_ok ht hf hu) (fun u hu => isAnd_ok hu (fun u hu => isHw_ok ht hf hu) (fun u hu => isHc_ok ht hf hu)))
  have e0 : (Int.ofNat 0) = 0 := rfl
  have e1 : (Int.ofNat 4) = 4 := rfl
  have e2 : (Int.ofNat 9999) = 9999 := rfl
  rw [e0, e1, e2] at h1
  unfold isHF
  cases v with
  | true =>
    rw [if_pos (h1.mp rfl)]
    rfl
  | false =>
    rw [if_neg fun h2 => absurd (h1.mpr h2) Bool.false_ne_true]
    rfl
noncomputable def f21 (tab : Tb) (fs : List Ln) (so fr wh ce bi la se : Ln) (p : PD) : Option Ln := match p.2.1, p.2.2 with
  | [], [a, b, c, d, e, f, g, r] => bif Nat.beq p.1 21 then (bif (bif eqL tab fs a so then (bif eqL tab fs b fr then (bif eqL tab fs c wh then (bif eqL tab fs d ce then (bif eqL tab fs e bi then (bif eqL tab fs f la then eqL tab fs g se else false) else false) else false) else false) else false) else false) then some r else none) else none
  | _, _ => none
theorem f21_ok {ρ : Nat → Int} {tab : Tb} {fs : List Ln} {cσ : SH} {pr : List PD} {so fr wh ce bi la se r : Ln} {p : PD} (ht : tOk ρ tab) (hf : fOk ρ fs) (hp : prOk PPk ρ cσ pr) (hm : p ∈ pr) (h : f21 tab fs so fr wh ce bi la se p = some r) : ev ρ r = isHF (ev ρ so) (ev ρ fr) (ev ρ wh) (ev ρ ce) (ev ρ bi) (ev ρ la) (ev ρ se) := by
  unfold f21 at h
  split at h
  · rename_i a b c d e f g r' h1 h2
    obtain ⟨k0, l0, ns0⟩ := p
    try dsimp only at h1 h2 h
    subst h1; subst h2
    cases z0 : Nat.beq k0 21 with
    | false => rw [z0] at h; cases h
    | true =>
      rw [z0, cond_true] at h
      have ek := Nat.eq_of_beq_eq_true z0
      subst ek
      cases zz : (bif eqL tab fs a so then (bif eqL tab fs b fr then (bif eqL tab fs c wh then (bif eqL tab fs d ce then (bif eqL tab fs e bi then (bif eqL tab fs f la then eqL tab fs g se else false) else false) else false) else false) else false) else false) with
      | false => rw [zz] at h; cases h
      | true =>
        rw [zz] at h
        cases h
        obtain ⟨y1, zz⟩ := cand zz
        obtain ⟨y2, zz⟩ := cand zz
        obtain ⟨y3, zz⟩ := cand zz
        obtain ⟨y4, zz⟩ := cand zz
        obtain ⟨y5, zz⟩ := cand zz
        obtain ⟨y6, y7⟩ := cand zz
        have h3 : ev ρ r = isHF (ev ρ a) (ev ρ b) (ev ρ c) (ev ρ d) (ev ρ e) (ev ρ f) (ev ρ g) := (show PPn 21 [] [ev ρ a, ev ρ b, ev ρ c, ev ρ d, ev ρ e, ev ρ f, ev ρ g, ev ρ r] from hp _ hm).2
        rw [h3, eqL_ok ht hf y1, eqL_ok ht hf y2, eqL_ok ht hf y3, eqL_ok ht hf y4, eqL_ok ht hf y5, eqL_ok ht hf y6, eqL_ok ht hf y7]
  · cases h
/-- a number of an object that local 0 leads to; of a row -/
noncomputable def numO (lv : AL) (A : AH) (ps : List Nat) (f : Nat) : Option Ln := match alGet 0 lv with
  | some (.inr (.inl (some o))) => (match objGo A o ps with
    | some q => (match A[q]? with
      | some (.inl (_, as)) => (match (as[f]? : Option AV) with
        | some (.inl (false, e)) => some e
        | _ => none)
      | _ => none)
    | none => none)
  | _ => none
noncomputable def numR (lv : AL) (A : AH) (f i : Nat) : Option Ln := match rowF lv A f with
  | some q => elA A q i
  | none => none
noncomputable def ihK (v : Bool) (so fr wh ce bi la se : Ln) (A : AH) (pr : List PD) (nx : Nat) (tab : Tb) (fs : List Ln) : Option (List HR) := match pr.findSome? (f21 tab fs so fr wh ce bi la se) with
  | some r => (match cst tab r with
    | some k => bif eqI k (bif v then .ofNat 1 else .ofNat 0) then none else some []
    | none => none)
  | none => addsP [(21, [], [so, fr, wh, ce, bi, la, se, kL (bif v then .ofNat 1 else .ofNat 0)])] A pr nx tab fs
theorem ihK_ok {v : Bool} {so fr wh ce bi la se : Ln} {A : AH} {pr : List PD} {nx : Nat} {tab : Tb} {fs : List Ln} {L : List HR} {ρ : Nat → Int} {cσ : SH} (h : ihK v so fr wh ce bi la se A pr nx tab fs = some L) (hr : ∀ ρ', agr2 nx ρ ρ' → tOk ρ' tab ∧ fOk ρ' fs ∧ rel2 (crel ρ') cσ A) (hp : ∀ ρ', agr2 nx ρ ρ' → prOk PPk ρ' cσ pr) (hv : isHVal tab fs so fr wh ce bi la se = some v) : ∃ q ∈ L, HGood ρ nx cσ q := by
  have hb : (bif v then (.ofNat 1 : Int) else .ofNat 0) = if v then 1 else 0 := by cases v <;> rfl
  unfold ihK at h
  split at h
  · rename_i r hr1
    split at h
    · rename_i k hk
      cases z : eqI k (bif v then .ofNat 1 else .ofNat 0) with
      | true => rw [z] at h; cases h
      | false =>
        exfalso
        obtain ⟨p, hm, hf⟩ := List.exists_of_findSome?_eq_some hr1
        obtain ⟨t1, t2, -⟩ := hr ρ agr2.rf
        have h1 := f21_ok t1 t2 (hp ρ agr2.rf) hm hf
        rw [isHVal_ok t1 t2 hv, cst_ok t1 hk, ← hb] at h1
        rw [h1] at z
        cases v <;> cases z
    · cases h
  · refine addsP_ok h hr hp fun ρ' ha p hq => ?_
    rw [List.mem_singleton.mp hq]
    refine (show PPn 21 [] [ev ρ' so, ev ρ' fr, ev ρ' wh, ev ρ' ce, ev ρ' bi, ev ρ' la, ev ρ' se, ev ρ' (kL (bif v then .ofNat 1 else .ofNat 0))] from ⟨rfl, ?_⟩)
    rw [ev_k, hb, isHVal_ok (hr ρ' ha).1 (hr ρ' ha).2.1 hv]
noncomputable def fIhA (la se : Option Ln) (l0 l1 l2 l3 l4 : Nat) (lv : AL) (A : AH) (pr : List PD) (nx : Nat) (tab : Tb) (fs : List Ln) : Option (List HR) := match alGet l0 lv, alGet l1 lv, alGet l2 lv, alGet l3 lv, alGet l4 lv, la, se with
  | some (.inl (false, so)), some (.inl (false, fr)), some (.inl (false, wh)), some (.inl (false, ce)), some (.inl (false, bi)), some la, some se => (match isHVal tab fs so fr wh ce bi la se with
    | some v => ihK v so fr wh ce bi la se A pr nx tab fs
    | none => none)
  | _, _, _, _, _, _, _ => none
theorem fIhA_ok {la se : Option Ln} {l0 l1 l2 l3 l4 : Nat} {lv : AL} {A : AH} {pr : List PD} {nx : Nat} {tab : Tb} {fs : List Ln} {L : List HR} {ρ : Nat → Int} {cσ : SH} (h : fIhA la se l0 l1 l2 l3 l4 lv A pr nx tab fs = some L) (hr : ∀ ρ', agr2 nx ρ ρ' → tOk ρ' tab ∧ fOk ρ' fs ∧ rel2 (crel ρ') cσ A) (hp : ∀ ρ', agr2 nx ρ ρ' → prOk PPk ρ' cσ pr) : ∃ q ∈ L, HGood ρ nx cσ q := by
  unfold fIhA at h
  split at h
  · split at h
    · rename_i v hv
      exact ihK_ok h hr hp hv
    · cases h
  · cases h
noncomputable def fIhC (ps qs : List Nat) (f g l0 l1 l2 l3 l4 : Nat) : HF := fun _ lv A pr nx tab fs => fIhA (numO lv A ps f) (numO lv A qs g) l0 l1 l2 l3 l4 lv A pr nx tab fs
theorem fIhC_ok (ps qs : List Nat) (f g l0 l1 l2 l3 l4 : Nat) : HFOk PPk (fIhC ps qs f g l0 l1 l2 l3 l4) := by
  intro pc lv A pr nx tab fs L ρ clv cσ h hr hp
  exact fIhA_ok h (hrA hr) hp
noncomputable def fIhR (f i j l0 l1 l2 l3 l4 : Nat) : HF := fun _ lv A pr nx tab fs => fIhA (numR lv A f i) (numR lv A f j) l0 l1 l2 l3 l4 lv A pr nx tab fs
theorem fIhR_ok (f i j l0 l1 l2 l3 l4 : Nat) : HFOk PPk (fIhR f i j l0 l1 l2 l3 l4) := by
  intro pc lv A pr nx tab fs L ρ clv cσ h hr hp
  exact fIhA_ok h (hrA hr) hp
