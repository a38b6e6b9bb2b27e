/-! ===== a call by a contract ===== -/
/-- a contract: of every state that its pattern has, the method returns in one that one of its outcomes has -/
noncomputable def ValidC (PP : Nat → List (List Int32) → List Int → Prop) (C : Ct) : Prop :=
  (∀ o ∈ C.2.2.2, scP o.1 = true ∧ C.2.2.1.1 ≤ o.1.1) ∧ ∀ (ρ : Nat → Int) (vs : List Value) (σ : SH), PtOk PP ρ C.2.2.1 vs σ → ∃ R : Res, Rn C.2.1 C.1 vs σ R ∧ ∃ o ∈ C.2.2.2, ∃ ρ', agr2 C.2.2.1.1 ρ ρ' ∧ PtOk PP ρ' o.1 R.1.toList R.2.1 ∧ R.2.2.1 ≤ o.2.1 ∧ R.2.2.2 ≤ o.2.2
section CALL
variable {PP : Nat → List (List Int32) → List Int → Prop} {scr : Option (List Int32)} {scl : Option SL} {ini : Bool} {o nL : Nat} {tb : List (List (Option XE))} {d : Nat} {G : List Ln} {G0 : List Int} {rk : Option Ln} {K : Int} {Q : Res → Prop}
variable {ρ : Nat → Int} {nx : Nat} {tab : Tb} {fs : List Ln} {st rest : List AV} {lv : AL} {A : AH} {pr : List PD} {cst cr : List Value} {clv : LV} {cσ : SH}
-- symbols replaced
theorem sbV_ok {θ : Th} {v : Value} {a : AV} (h : vrel (thE ρ θ) v a) : vrel ρ v (sbV θ a) := by
  match a, h with
  | .inl (false, e), ⟨x, e1, e2⟩ => exact ⟨x, e1, e2.trans (ev_sb ρ θ e).symm⟩
  | .inl (true, e), ⟨x, e1, e2⟩ => exact ⟨x, e1, e2.trans (ev_sb ρ θ e).symm⟩
  | .inr (.inl (some i)), e1 => exact e1
  | .inr (.inl none), e1 => exact e1
  | .inr (.inr (p, q)), e1 =>
    show v = .int (cmpZ (ev ρ (sbL θ p)) (ev ρ (sbL θ q)))
    rw [ev_sb, ev_sb]
    exact e1
theorem sbS_ok {θ : Th} {s : List Sg} {l : List Int32} (h : srel (thE ρ θ) s l) : srel ρ (s.map (sbS θ)) l := by
  induction s generalizing l with
  | nil => exact h
  | cons q r ih =>
    match q, h with
    | .inl e, ⟨x, l', e1, e2, h2⟩ => exact ⟨x, l', e1, e2.trans (ev_sb ρ θ e).symm, ih h2⟩
    | .inr (m, lo, hi), ⟨l1, l2, e1, e2, e3, h2⟩ => exact ⟨l1, l2, e1, e2, e3, ih h2⟩
theorem sbC_ok {θ : Th} {c : SC} {a : AC} (h : crel (thE ρ θ) c a) : crel ρ c (sbC θ a) := by
  match a, h with
  | .inl (ci, as), ⟨f, e, h'⟩ =>
    rw [sbC_def]
    refine ⟨f, e, ?_⟩
    have := rel2_map (R := vrel (thE ρ θ)) (R' := vrel ρ) (f := id) (g := sbV θ) (fun _ _ q => sbV_ok q) h'
    rw [List.map_id] at this
    exact this
  | .inr (k, .inl s), h =>
    have h' : arel (thE ρ θ) k s c := h
    rw [sbC_def]
    show arel ρ k (s.map (sbS θ)) c
    unfold arel at h' ⊢
    split at h'
    · rename_i hk
      rw [if_pos hk]
      obtain ⟨l, e, h2⟩ := h'
      exact ⟨l, e, sbS_ok h2⟩
    · rename_i hk
      rw [if_neg hk]
      obtain ⟨l, e, h2⟩ := h'
      refine ⟨l, e, ?_⟩
      match s, h2 with
      | [.inl e], h2 => exact Eq.trans h2 (ev_sb ρ θ e).symm
  | .inr (k, .inr (.inl m)), ⟨l, e, h'⟩ => exact ⟨l, e, h'⟩
  | .inr (k, .inr (.inr q)), e => exact e
theorem sbVs_ok {θ : Th} {l : List Value} {as : List AV} (h : rel2 (vrel (thE ρ θ)) l as) : rel2 (vrel ρ) l (as.map (sbV θ)) := by
  have := rel2_map (R := vrel (thE ρ θ)) (R' := vrel ρ) (f := id) (g := sbV θ) (fun _ _ q => sbV_ok q) h
  rw [List.map_id] at this
  exact this
theorem sbH_ok {θ : Th} {l : SH} {as : AH} (h : rel2 (crel (thE ρ θ)) l as) : rel2 (crel ρ) l (as.map (sbC θ)) := by
  have := rel2_map (R := crel (thE ρ θ)) (R' := crel ρ) (f := id) (g := sbC θ) (fun _ _ q => sbC_ok q) h
  rw [List.map_id] at this
  exact this
theorem addB_ok {tab : Tb} {fs : List Ln} (ht : tOk ρ tab) (hf : fOk ρ fs) {e : Ln} {lo hi : Int} (h1 : lo ≤ ev ρ e) (h2 : ev ρ e ≤ hi) : ∃ tab' fs', addB e lo hi tab fs = some (tab', fs') ∧ tOk ρ tab' ∧ fOk ρ fs' := by
  rw [addB_def]
  cases hc : isFr e tab with
  | true =>
    have he : ev ρ e = ρ (hdS e) := by
      obtain ⟨c, ts⟩ := e
      rw [isFr_def] at hc
      split at hc
      · rename_i t k hts
        try dsimp only at hts hc
        cases z1 : isZ c with
        | false => rw [z1] at hc; cases hc
        | true =>
          rw [z1] at hc
          cases z2 : eqI k 1 with
          | false => rw [z2] at hc; cases hc
          | true =>
            have e1 := isZ_eq z1
            have e2 := eqI_eq z2
            subst e1; subst e2; subst hts
            show 0 + (1 * ρ t + 0) = ρ t
            omega
      · cases hc
    exact ⟨_, _, rfl, tOk_cons ht (by rw [← he]; exact h1) (by rw [← he]; exact h2), hf⟩
  | false =>
    obtain ⟨t, f, e1, q1, q2⟩ := addLe_ok ht hf (e := pluL e (Int.neg hi)) (by
      rw [ev_plu]
      have : Int.neg hi = - hi := rfl
      omega)
    rw [cond_false, e1]
    exact addLe_ok q1 q2 (by rw [ev_sub, ev_k]; omega)
theorem thN_lt {θ : Th} {nx pnx s : Nat} (h : s < pnx) : thN θ nx pnx s = θ s := by
  rw [thN_def]
  rw [blt_iff.mpr h]
  rfl
theorem thN_ge {θ : Th} {nx pnx s : Nat} (h : pnx ≤ s) : thN θ nx pnx s = sL (nx + (s - pnx)) := by
  rw [thN_def]
  cases hb : Nat.blt s pnx with
  | true => have := blt_iff.mp hb; omega
  | false => rfl
theorem addT_ok {θ : Th} {pnx : Nat} : ∀ (ps : TbL) (tab : Tb) (fs : List Ln), tOk ρ tab → fOk ρ fs → (∀ q ∈ ps, q.1 < pnx → q.2.1 ≤ ev ρ (θ q.1) ∧ ev ρ (θ q.1) ≤ q.2.2) → ∃ tab' fs', addT' θ pnx ps tab fs = some (tab', fs') ∧ tOk ρ tab' ∧ fOk ρ fs' := by
  intro ps
  induction ps with
  | nil => intro tab fs h1 h2 _; exact ⟨tab, fs, rfl, h1, h2⟩
  | cons q r ih =>
    obtain ⟨s, lo, hi⟩ := q
    intro tab fs h1 h2 hp
    rw [addT'_def]
    try dsimp only
    cases hb : Nat.blt s pnx with
    | false => exact ⟨tab, fs, rfl, h1, h2⟩
    | true =>
      have h3 := hp (s, lo, hi) List.mem_cons_self (blt_iff.mp hb)
      obtain ⟨t, f, e1, q1, q2⟩ := addB_ok h1 h2 (e := θ s) h3.1 h3.2
      rw [cond_true, e1]
      exact ih t f q1 q2 fun p hq => hp p (List.mem_cons_of_mem _ hq)
theorem tbO_ok {tab : Tb} {nx pnx onx : Nat} {l : TbL} {θ : Th} (h : tOk ρ tab) (hl : tOkL (thE ρ (thN θ nx pnx)) l) : tOk ρ (tbO tab nx pnx onx l) := by
  rw [tbO_def]
  cases h0 : Nat.beq onx pnx with
  | true => exact h
  | false =>
    rw [cond_false]
    have hb := balT_ok 9 l
    cases hbb : balT 9 l with
    | mk m x =>
      obtain ⟨f, r⟩ := x
      rw [hbb] at hb
      refine ⟨fun q hq => (by cases hq), fun s b hs => ?_⟩
      have hs' : (tbN tab nx pnx f).2 s = some b := hs
      rw [tbN_def] at hs'
      try dsimp only at hs'
      cases h1 : Nat.ble nx s with
      | true =>
        rw [h1] at hs'
        have h2 := hl _ (hb.2 _ b hs')
        have hle := Nat.le_of_ble_eq_true h1
        have e : thE ρ (thN θ nx pnx) (Nat.add pnx (Nat.sub s nx)) = ρ s := by
          show ev ρ (thN θ nx pnx (pnx + (s - nx))) = ρ s
          rw [thN_ge (by omega), ev_s]
          congr 1
          omega
        try dsimp only at h2
        rw [e] at h2
        exact h2
      | false =>
        rw [h1] at hs'
        exact tbLk_ok h hs'
theorem addF_ok {θ : Th} : ∀ (ps : List Ln) (tab : Tb) (fs : List Ln), tOk ρ tab → fOk ρ fs → fOk (thE ρ θ) ps → ∃ tab' fs', addF' θ ps tab fs = some (tab', fs') ∧ tOk ρ tab' ∧ fOk ρ fs' := by
  intro ps
  induction ps with
  | nil => intro tab fs h1 h2 _; exact ⟨tab, fs, rfl, h1, h2⟩
  | cons q r ih =>
    intro tab fs h1 h2 hp
    have h3 := hp q List.mem_cons_self
    obtain ⟨t, f, e1, q1, q2⟩ := addLe_ok h1 h2 (e := sbL θ q) (by rw [ev_sb]; exact h3)
    rw [addF'_def]
    try dsimp only
    rw [e1]
    exact ih t f q1 q2 fun p hq => hp p (List.mem_cons_of_mem _ hq)
theorem outAll_mem {k : Ot → Bool} {l : List Ot} (h : outAll k l = true) : ∀ o ∈ l, k o = true := by
  induction l with
  | nil => intro o ho; cases ho
  | cons a r ih =>
    rw [outAll_def] at h
    try dsimp only at h
    obtain ⟨h1, h2⟩ := cand h
    intro o ho
    rcases List.mem_cons.mp ho with rfl | ho
    · exact h1
    · exact ih h2 o ho
theorem callCt_mem {k : KK} {pc a : Nat} {as' : List AV} {H : AH} {pr' : List PD} {ca cb : Nat} {I : List Nat} {env : List Ct} (h : callCt k pc a as' H pr' rest lv A pr nx tab fs ca cb I env = true) : ∃ C ∈ env, ∃ θ : Th, C.1 = a ∧ instP tab fs θ C.2.2.1 as' (convH nx 0 C.2.2.1.2.2.2.2.1 H) pr' = true ∧ (∀ s, s < C.2.2.1.1 → scL (Nat.add nx I.length) (θ s) = true) ∧ ∀ o ∈ C.2.2.2, outA k pc rest lv A pr nx tab fs ca cb θ I H (convH nx 0 C.2.2.1.2.2.2.2.1 H) C.2.2.1.1 o = true := by
  induction env with
  | nil => cases h
  | cons C r ih =>
    have recu : callCt k pc a as' H pr' rest lv A pr nx tab fs ca cb I r = true → ∃ C' ∈ C :: r, ∃ θ : Th, C'.1 = a ∧ instP tab fs θ C'.2.2.1 as' (convH nx 0 C'.2.2.1.2.2.2.2.1 H) pr' = true ∧ (∀ s, s < C'.2.2.1.1 → scL (Nat.add nx I.length) (θ s) = true) ∧ ∀ o ∈ C'.2.2.2, outA k pc rest lv A pr nx tab fs ca cb θ I H (convH nx 0 C'.2.2.1.2.2.2.2.1 H) C'.2.2.1.1 o = true := fun q => by
      obtain ⟨C', c1, c2⟩ := ih q
      exact ⟨C', List.mem_cons_of_mem _ c1, c2⟩
    rw [callCt_def] at h
    try dsimp only at h
    cases h1 : Nat.beq C.1 a with
    | false => rw [h1] at h; exact recu h
    | true =>
      rw [h1] at h
      simp only [cond_true] at h
      cases h2 : tryCt k pc as' H pr' rest lv A pr nx tab fs ca cb I C (convH nx 0 C.2.2.1.2.2.2.2.1 H) with
      | none => rw [h2] at h; exact recu h
      | some b =>
        rw [h2] at h
        try dsimp only at h
        subst h
        rw [tryCt_def] at h2
        rw [withFO_def] at h2
        split at h2
        rename_i m θ rr hb
        rw [oneCt_def] at h2
        cases h3 : instP tab fs θ C.2.2.1 as' (convH nx 0 C.2.2.1.2.2.2.2.1 H) pr' with
        | false => rw [h3] at h2; cases h2
        | true =>
          rw [h3] at h2
          simp only [cond_true, Option.some.injEq] at h2
          obtain ⟨h4, h5⟩ := cand h2
          exact ⟨C, List.mem_cons_self, θ, Nat.eq_of_beq_eq_true h1, h3, fun s hs => loopJ_ok _ 0 h4 s (Nat.zero_le _) (by omega), outAll_mem h5⟩
theorem arel_con {k : Nat} {s : List Sg} {c : SC} (hk : 100 ≤ k) (h : arel ρ k s c) : ∃ l, c = .inr (k - 100, .inl l) ∧ conR ρ s l := by
  unfold arel at h
  rw [if_neg (Nat.not_lt.mpr hk)] at h
  exact h
theorem convH_ok {nx : Nat} : ∀ {H ps : AH} {τ : SH} (k : Nat), rel2 (crel ρ) τ H → (∀ (i : Nat) (c : SC), τ[i]? = some c → ρ (nx + (k + i)) = (encN (arrI c) : Int)) → rel2 (crel ρ) τ (convH nx k ps H) := by
  intro H
  induction H with
  | nil =>
    intro ps τ k h _
    cases ps with
    | nil => exact h
    | cons p ps => exact h
  | cons a H ih =>
    intro ps τ k h hy
    cases ps with
    | nil => exact h
    | cons p ps =>
      obtain ⟨c, τ', e, h1, h2⟩ := rel2_cons h
      subst e
      refine ⟨?_, ih (ps := ps) (Nat.succ k) h2 (fun i c' hc => by
        rw [show nx + (Nat.succ k + i) = nx + (k + (i + 1)) by omega]
        exact hy (i + 1) c' hc)⟩
      have hy0 := hy 0 c rfl
      rw [convC_def]
      split
      · rename_i kp sp kh s
        cases z1 : Nat.ble 100 kp with
        | false => exact h1
        | true =>
          cases z2 : Nat.blt kh 100 with
          | false => exact h1
          | true =>
            have hk := blt_iff.mp z2
            obtain ⟨l, e1, e2⟩ := crI_inv hk h1
            show arel ρ (kh + 100) [.inl (sL (nx + k))] c
            unfold arel
            rw [if_neg (by omega)]
            refine ⟨l, by rw [e1, Nat.add_sub_cancel], ?_⟩
            show (encN l : Int) = ev ρ (sL (nx + k))
            rw [ev_s, show nx + k = nx + (k + 0) by omega, hy0, e1]
            rfl
      · exact h1
theorem sameA_ok {c c' : SC} {a b : AC} (h1 : crel ρ c a) (h2 : crel ρ c' b) (h : sameA a b = true) : arrI c = arrI c' := by
  rw [sameA_def] at h
  split at h
  · rename_i k e k' e'
    obtain ⟨g1, h⟩ := cand h
    obtain ⟨g2, h⟩ := cand h
    obtain ⟨g3, g4⟩ := cand h
    obtain ⟨l, e1, e2⟩ := arel_con (Nat.le_of_ble_eq_true g1) h1
    obtain ⟨l', e1', e2'⟩ := arel_con (Nat.le_of_ble_eq_true g2) h2
    have e3 : e = e' := by
      obtain ⟨x1, x2⟩ := e
      obtain ⟨y1, y2⟩ := e'
      have q1 : x1 = y1 := eqI_eq g3
      have q2 : x2 = y2 := eqT_eq g4
      rw [q1, q2]
    subst e3
    have q1 : (encN l : Int) = ev ρ e := e2
    have q2 : (encN l' : Int) = ev ρ e := e2'
    have q3 : l = l' := encN_inj (by omega)
    rw [e1, e1', q3]
    rfl
  · cases h
theorem resC_ok {τ : SH} {H : AH} {nx nI : Nat} (hA : rel2 (crel ρ) τ H) (hy : ∀ (i : Nat) (c : SC), τ[i]? = some c → ρ (nx + i) = (encN (arrI c) : Int)) {c : SC} {a : AC} (h : crel ρ c a) : crel ρ c (resC nx nI H a) := by
  rw [resC_def]
  split
  · rename_i k z y w
    cases hc : (bif Nat.ble 100 k then (bif isZ z then (bif eqI w 1 then (bif Nat.ble nx y then Nat.blt (Nat.sub y nx) nI else false) else false) else false) else false) with
    | false => exact h
    | true =>
      obtain ⟨g1, g⟩ := cand hc
      obtain ⟨g2, g⟩ := cand g
      obtain ⟨g3, g⟩ := cand g
      obtain ⟨g4, g5⟩ := cand g
      rw [cond_true]
      split
      · rename_i kh s hH
        cases hd : (bif Nat.blt kh 100 then Nat.beq (Nat.add kh 100) k else false) with
        | false => exact h
        | true =>
          obtain ⟨d1, d2⟩ := cand hd
          obtain ⟨l, e1, e2⟩ := arel_con (Nat.le_of_ble_eq_true g1) h
          obtain ⟨c2, hc1, hc2⟩ := rel2_get hA hH
          have hkh := blt_iff.mp d1
          obtain ⟨l2, e3, e4⟩ := crI_inv hkh hc2
          have hz := isZ_eq g2
          have hw := eqI_eq g3
          subst hz; subst hw
          have hk : kh + 100 = k := Nat.eq_of_beq_eq_true d2
          have q1 : (encN l : Int) = ev ρ (0, [(y, 1)]) := e2
          have q2 : ev ρ (0, [(y, 1)]) = ρ y := by show 0 + (1 * ρ y + 0) = ρ y; omega
          have hle := Nat.le_of_ble_eq_true g4
          have q3 := hy (y - nx) c2 hc1
          rw [show nx + (y - nx) = y by omega, e3] at q3
          have q4 : l = l2 := encN_inj (by
            have : (arrI (.inr (kh, .inl l2)) : List Int32) = l2 := rfl
            rw [this] at q3
            omega)
          rw [cond_true, e1, q4, ← hk, Nat.add_sub_cancel]
          exact arel_mk hkh e4
      · exact h
  · exact h
theorem okP_ok {I : List Nat} {n : Nat} {H' H1 : AH} {l : List Nat} (h : okP I n H' H1 l = true) : ∀ c ∈ l, (c ∈ I ∧ sameA (getC H' (ixA c I)) (getC H1 (ixA c I)) = true) ∨ (c ∉ I ∧ c < n) := by
  induction l with
  | nil => intro c hc; cases hc
  | cons b r ih =>
    rw [okP_def] at h
    try dsimp only at h
    obtain ⟨g1, g2⟩ := cand h
    intro c hc
    rcases List.mem_cons.mp hc with rfl | hc
    · cases hm : memN c I with
      | true => rw [hm] at g1; exact Or.inl ⟨memN_iff.mp hm, g1⟩
      | false => rw [hm] at g1; exact Or.inr ⟨fun q => (by rw [memN_iff.mpr q] at hm; cases hm), blt_iff.mp g1⟩
    · exact ih g2 c hc
theorem prSame_mem {I : List Nat} {n : Nat} {H' H1 : AH} {pr : List PD} {p : PD} (h : p ∈ prSame I n H' H1 pr) : p ∈ pr ∧ okP I n H' H1 p.2.1 = true := by
  induction pr with
  | nil => cases h
  | cons a r ih =>
    rw [prSame_def] at h
    try dsimp only at h
    cases hm : okP I n H' H1 a.2.1 with
    | true =>
      rw [hm] at h
      rcases List.mem_cons.mp h with rfl | h
      · exact ⟨List.mem_cons_self, hm⟩
      · exact ⟨List.mem_cons_of_mem _ (ih h).1, (ih h).2⟩
    | false => rw [hm] at h; exact ⟨List.mem_cons_of_mem _ (ih h).1, (ih h).2⟩
theorem copyTo_mem {kd : Nat} {ns : List Ln} {c : AC} {p : PD} : ∀ {I : List Nat} {H1 : AH}, p ∈ copyTo kd ns c I H1 → ∃ (j i : Nat) (h : AC), I[j]? = some i ∧ H1[j]? = some h ∧ sameA c h = true ∧ p = (kd, [i], ns) := by
  intro I
  induction I with
  | nil => intro H1 h; cases H1 <;> cases h
  | cons i I ih =>
    intro H1 h
    cases H1 with
    | nil => cases h
    | cons a H1 =>
      rw [copyTo_def] at h
      try dsimp only at h
      cases hm : sameA c a with
      | true =>
        rw [hm] at h
        rcases List.mem_cons.mp h with rfl | h
        · exact ⟨0, i, a, rfl, rfl, hm, rfl⟩
        · obtain ⟨j, i', h', q⟩ := ih h; exact ⟨j + 1, i', h', q⟩
      | false => rw [hm] at h; obtain ⟨j, i', h', q⟩ := ih h; exact ⟨j + 1, i', h', q⟩
theorem prCopy_mem {I : List Nat} {H' H1 : AH} {pr : List PD} {p : PD} (h : p ∈ prCopy I H' H1 pr) : ∃ kd q ns, (kd, [q], ns) ∈ pr ∧ q ∈ I ∧ p ∈ copyTo kd ns (getC H' (ixA q I)) I H1 := by
  induction pr with
  | nil => cases h
  | cons a r ih =>
    have recu : p ∈ prCopy I H' H1 r → ∃ kd q ns, (kd, [q], ns) ∈ a :: r ∧ q ∈ I ∧ p ∈ copyTo kd ns (getC H' (ixA q I)) I H1 := fun h => by
      obtain ⟨kd, q, ns, q1, q2⟩ := ih h
      exact ⟨kd, q, ns, List.mem_cons_of_mem _ q1, q2⟩
    obtain ⟨kd, l, ns⟩ := a
    rw [prCopy_def] at h
    try dsimp only at h
    split at h
    · rename_i q
      cases hm : memN q I with
      | false => rw [hm] at h; exact recu h
      | true =>
        rw [hm] at h
        rcases List.mem_append.mp h with h | h
        · exact ⟨kd, q, ns, List.mem_cons_self, memN_iff.mp hm, h⟩
        · exact recu h
    · exact recu h
theorem prNew_ok {I : List Nat} {h1 : SH} {H' H1 : AH} {pr2 : List PD} (hnd : va_nd I = true) (hI : ∀ i ∈ I, i < cσ.length) (hl : I.length ≤ h1.length) (h : prOk PP ρ cσ pr) (h2 : prOk PP ρ h1 pr2) (r1 : rel2 (crel ρ) (subH cσ I) H') (r2 : rel2 (crel ρ) h1 H1) : prOk PP ρ (paste cσ I h1) (prBack I cσ.length h1.length pr2 ++ (prSame I cσ.length H' H1 pr ++ prCopy I H' H1 pr)) := fun p hp => by
  -- the row at a place of the cut, before and behind
  have sub_at : ∀ q ∈ I, (subH cσ I)[ixA q I]? = some (rnC I (cσ.getD q (.inl (0, [])))) := fun q hq => by
    unfold subH
    rw [List.getElem?_map, (ixA_get hq).1]
    rfl
  have back_at : ∀ (j i : Nat), I[j]? = some i → ∃ c, h1[j]? = some c ∧ arrI ((paste cσ I h1).getD i (.inl (0, []))) = arrI c := fun j i hj => by
    have hj' := (List.getElem?_eq_some_iff.mp hj).1
    obtain ⟨c, c1, c2⟩ := paste_in (σ := cσ) hnd hI hl (k := j) (by omega)
    refine ⟨c, c1, ?_⟩
    have e : urA I cσ.length j = i := by
      rw [urA_def]
      rw [blt_iff.mpr hj', cond_true, List.getD_eq_getElem?_getD, hj]
      rfl
    rw [e] at c2
    rw [List.getD_eq_getElem?_getD, c2]
    exact arr_ur I _ c
  rcases List.mem_append.mp hp with hp | hp
  · have := prOut_ok (pr := []) hnd hI hl (fun p hp => (by cases hp)) h2
    exact this p (List.mem_append.mpr (Or.inr hp))
  rcases List.mem_append.mp hp with hp | hp
  · obtain ⟨q1, q2⟩ := prSame_mem hp
    have h3 := h p q1
    have h4 := okP_ok q2
    have e : p.2.1.map (fun i => arrI ((paste cσ I h1).getD i (.inl (0, [])))) = p.2.1.map (fun i => arrI (cσ.getD i (.inl (0, [])))) := List.map_congr_left fun i hi => by
      rcases h4 i hi with ⟨a1, a2⟩ | ⟨a1, a2⟩
      · obtain ⟨c, c1, c2⟩ := back_at _ i (ixA_get a1).1
        rw [c2]
        obtain ⟨x, x1, x2⟩ := rel2_get' r1 (sub_at i a1)
        obtain ⟨y, y1, y2⟩ := rel2_get' r2 c1
        have e1 : getC H' (ixA i I) = x := by rw [getC_def]; rw [List.getD_eq_getElem?_getD, x1]; rfl
        have e2 : getC H1 (ixA i I) = y := by rw [getC_def]; rw [List.getD_eq_getElem?_getD, y1]; rfl
        rw [e1, e2] at a2
        have := sameA_ok x2 y2 a2
        rw [arr_rn] at this
        exact this.symm
      · rw [List.getD_eq_getElem?_getD, List.getD_eq_getElem?_getD, paste_out a2 a1]
    rw [e]
    exact h3
  · · obtain ⟨kd, q, ns, q1, q2, q3⟩ := prCopy_mem hp
      obtain ⟨j, i, hc, j1, j2, j3, rfl⟩ := copyTo_mem q3
      have h3 : PP kd [arrI (cσ.getD q (.inl (0, [])))] (ns.map (ev ρ)) := h (kd, [q], ns) q1
      obtain ⟨c, c1, c2⟩ := back_at j i j1
      obtain ⟨x, x1, x2⟩ := rel2_get' r1 (sub_at q q2)
      obtain ⟨y, y1, y2⟩ := rel2_get' r2 c1
      have e1 : getC H' (ixA q I) = x := by rw [getC_def]; rw [List.getD_eq_getElem?_getD, x1]; rfl
      rw [j2] at y1
      cases y1
      rw [e1] at j3
      have := sameA_ok x2 y2 j3
      rw [arr_rn] at this
      show PP kd [arrI ((paste cσ I h1).getD i (.inl (0, [])))] (ns.map (ev ρ))
      rw [c2, ← this]
      exact h3
theorem prSb_ok {θ : Th} {σ : SH} {pr : List PD} (h : prOk PP (thE ρ θ) σ pr) : prOk PP ρ σ (prSb θ pr) := fun p hp => by
  rw [prSb_def] at hp
  obtain ⟨q, q1, rfl⟩ := List.mem_map.mp hp
  have e : (q.2.2.map (sbL θ)).map (ev ρ) = q.2.2.map (ev (thE ρ θ)) := by
    rw [List.map_map]
    refine List.map_congr_left fun e _ => ?_
    show ev ρ (sbL θ e) = _
    rw [ev_sb]
  show PP q.1 _ ((q.2.2.map (sbL θ)).map (ev ρ))
  rw [e]
  exact h q q1
theorem isClsA_ok {me : ME} {as : List Value} {aa : List AV} (hA : rel2 (crel ρ) cσ A) (ha : rel2 (vrel ρ) as aa) (h : isClsA me aa A = true) : isCls me as cσ = true := by
  unfold isClsA at h
  unfold isCls
  split at h
  · rename_i q r hk
    obtain ⟨v, l, e, h1, h2⟩ := rel2_cons ha
    have e1 := vR_inv h1
    subst e; subst e1
    simp only [hk]
    split at h
    · rename_i ci as' hq
      obtain ⟨c, hc1, hc2⟩ := rel2_get hA hq
      obtain ⟨f, e2, -⟩ := crO_inv hc2
      subst e2
      simp only [hc1]
      obtain ⟨g1, g2⟩ := cand h
      simp only [Bool.and_eq_true, decide_eq_true_eq]
      exact ⟨Nat.eq_of_beq_eq_true g1, blt_iff.mp g2⟩
    · cases h
  · rename_i q r hk
    obtain ⟨v, l, e, h1, h2⟩ := rel2_cons ha
    have e1 := vR_inv h1
    subst e; subst e1
    simp only [hk]
  · rename_i hk
    simp only [hk]
  · cases h
set_option maxHeartbeats 4000000 in
theorem step7 {env : List Ct} {k : KK} {i : Instr} {len a b w pc ca cb cca ccb : Nat} (hE : ∀ C ∈ env, ValidC PP C ∧ C.2.1 ≤ d) (hk : KOk PP scr scl ini o nL tb d G G0 rk K Q k) (hg : tbGet tb pc = some (i, len, 7, a, b, w)) (hi : Inv PP scr scl G G0 rk K ρ nx tab fs st lv A pr cst clv cσ) (h : g7 env k i a b pc st lv A pr nx tab fs ca cb = true) (h1 : cca ≤ ca) (h2 : ccb ≤ cb) : Good scr ini o nL tb d Q (pc, cst, clv, cσ, cca, ccb) := by
  unfold g7 at h
  rw [nthQ_eq] at h
  simp only [aCutZ_eq, aSubZ_eq] at h
  obtain ⟨hcall, h⟩ := cand h
  cases hme : meths[a]? with
  | none => simp only [hme] at h; cases h
  | some me =>
    simp only [hme] at h
    obtain ⟨c1, h⟩ := cand h
    obtain ⟨c2, h⟩ := cand h
    obtain ⟨c3, h⟩ := cand h
    obtain ⟨c4, h⟩ := cand h
    cases hI : aCut A (st.take b).reverse with
    | none => simp only [hI] at h; cases h
    | some I =>
      simp only [hI] at h
      obtain ⟨C, hC, θ, e1, hin, hsc, hout⟩ := callCt_mem h
      obtain ⟨q1, q2, q3, q4, q5, q6, q7, q8⟩ := hi.1 ρ agr2.rf
      have hlen := rel2_len q5
      have hlst := rel2_len q3
      have hargs : rel2 (vrel ρ) (cst.take b).reverse (st.take b).reverse := rel2_rev (rel2_take q3 b)
      have hrest : ∀ ρ', agr2 nx ρ ρ' → rel2 (vrel ρ') (cst.drop b) (st.drop b) := fun ρ' ha => rel2_drop (hi.1 ρ' ha).2.2.1 b
      obtain ⟨hcut, hcok, hIlt⟩ := aCut_ok q5 hargs hI
      have hnd : va_nd I = true := by
        have := hcok
        unfold cutOk at this
        simp only [Bool.and_eq_true] at this
        exact this.1
      have hcallIn : callIn a b cst clv cσ = some ((cst.take b).reverse, cst.drop b) := by
        unfold callIn
        simp only [hme]
        rw [if_pos]
        refine ⟨by rw [hlst]; exact Nat.le_of_ble_eq_true c1, by rw [cat_sum (hrest ρ agr2.rf)]; exact Nat.le_of_ble_eq_true c2, ?_, isClsA_ok q5 hargs c4⟩
        unfold okFr
        rw [Bool.and_eq_true, hlen]
        refine ⟨okVA_all (hrest ρ agr2.rf) c3, List.all_eq_true.mpr fun q hq => ?_⟩
        rw [← hlen]
        exact hi.2.2 q hq
      have hsub := aSubH_ok q5 hIlt
      have hargs' : rel2 (vrel ρ) ((cst.take b).reverse.map (rnV I)) ((st.take b).reverse.map (mpV (fun j => ixA j I))) := rel2_map (fun _ _ q => rnV_ok q) hargs
      -- the rows of the cut as numbers of their own
      let τ := subH cσ I
      let ρe : Nat → Int := fun j => if j < nx then ρ j else (encN (arrI (τ.getD (j - nx) (.inl (0, [])))) : Int)
      have hag00 : agr2 nx ρ ρe := fun i hi' => by
        show (if i < nx then ρ i else _) = ρ i
        rw [if_pos hi']
      have hτl : τ.length = I.length := by show (subH cσ I).length = _; simp [subH]
      have hnum : ∀ ρ3, agr2 (nx + I.length) ρe ρ3 → ∀ (i : Nat) (c : SC), τ[i]? = some c → ρ3 (nx + i) = (encN (arrI c) : Int) := fun ρ3 ha i c hc => by
        have hlt := (List.getElem?_eq_some_iff.mp hc).1
        rw [ha (nx + i) (by omega)]
        show (if nx + i < nx then _ else (encN (arrI (τ.getD (nx + i - nx) (.inl (0, [])))) : Int)) = _
        rw [if_neg (by omega), show nx + i - nx = i by omega, List.getD_eq_getElem?_getD, hc]
        rfl
      have hagE : ∀ ρ3, agr2 (nx + I.length) ρe ρ3 → agr2 nx ρ ρ3 := fun ρ3 ha i hi' => (ha i (by omega)).trans (hag00 i hi')
      let H' := convH nx 0 C.2.2.1.2.2.2.2.1 (aSubH A I)
      have hH' : ∀ ρ3, agr2 (nx + I.length) ρe ρ3 → rel2 (crel ρ3) τ H' := fun ρ3 ha => convH_ok 0 (aSubH_ok (hi.1 ρ3 (hagE ρ3 ha)).2.2.2.2.1 hIlt) (fun i c hc => by
        rw [Nat.zero_add]
        exact hnum ρ3 ha i c hc)
      obtain ⟨w1, w2, w3, w4, w5, -⟩ := hi.1 ρe hag00
      have hargsE : rel2 (vrel ρe) ((cst.take b).reverse.map (rnV I)) ((st.take b).reverse.map (mpV (fun j => ixA j I))) := rel2_map (fun _ _ q => rnV_ok q) (rel2_rev (rel2_take w3 b))
      have hpt := instP_ok (PP := PP) w1 w2 hargsE (hH' ρe agr2.rf) (prIn_ok (hi.2.1 ρe hag00)) hin
      obtain ⟨⟨hsco, hval⟩, hd⟩ := hE C hC
      obtain ⟨⟨r, hh1, cc1, ss1⟩, hrn, oo, hoo, ρ', hagr, hpo, hcc, hss⟩ := hval _ _ _ hpt
      obtain ⟨hscp, hnxo⟩ := hsco oo hoo
      have hA := hout oo hoo
      try dsimp only at hpo hcc hss
      -- the symbols of the outcome in the caller
      let pnx := C.2.2.1.1
      let nx1 := nx + I.length
      let ρ2 : Nat → Int := fun j => if j < nx1 then ρe j else ρ' (pnx + (j - nx1))
      let θo := thN θ nx1 pnx
      have hag0 : ∀ ρ3, agr2 (nx1 + (oo.1.1 - pnx)) ρ2 ρ3 → agr2 nx1 ρe ρ3 := fun ρ3 ha i hi' => by
        rw [ha i (by omega)]
        show (if i < nx1 then ρe i else _) = ρe i
        rw [if_pos hi']
      have hag : ∀ ρ3, agr2 (nx1 + (oo.1.1 - pnx)) ρ2 ρ3 → agr2 oo.1.1 ρ' (thE ρ3 θo) := fun ρ3 ha s hs => by
        show ev ρ3 (thN θ nx1 pnx s) = ρ' s
        by_cases hsp : s < pnx
        · rw [thN_lt hsp, hagr s hsp]
          exact scL_ev (hag0 ρ3 ha) (hsc s hsp)
        · rw [thN_ge (by omega), ev_s, ha _ (by omega)]
          show (if nx1 + (s - pnx) < nx1 then _ else ρ' (pnx + (nx1 + (s - pnx) - nx1))) = ρ' s
          rw [if_neg (by omega)]
          congr 1
          omega
      have hpo3 : ∀ ρ3, agr2 (nx1 + (oo.1.1 - pnx)) ρ2 ρ3 → PtOk PP (thE ρ3 θo) oo.1 r.toList hh1 := fun ρ3 ha => PtOk_agr hscp (hag ρ3 ha) hpo
      have hgo : ∃ tab2 fs2, (∀ ρ3, agr2 (nx1 + (oo.1.1 - pnx)) ρ2 ρ3 → tOk ρ3 tab2 ∧ fOk ρ3 fs2) ∧ (bif Nat.ble I.length (oo.1.2.2.2.2.1.map (sbC θo)).length then (bif (oo.1.2.2.2.2.1.map (sbC θo)).all (okCA (oo.1.2.2.2.2.1.map (sbC θo)).length) then (bif (bif Nat.beq (oo.1.2.2.2.2.1.map (sbC θo)).length I.length then true else bif A.all (okCA A.length) then Nat.blt (Nat.add A.length (oo.1.2.2.2.2.1.map (sbC θo)).length) sIdx else false) then k (Nat.add pc 3) (oo.1.2.2.2.1.map (sbV θo) ++ st.drop b) lv (aPaste A I ((oo.1.2.2.2.2.1.map (sbC θo)).map (resC nx I.length (aSubH A I)))) (prBack I A.length (oo.1.2.2.2.2.1.map (sbC θo)).length (prSb θo oo.1.2.2.2.2.2) ++ (prSame I A.length H' (oo.1.2.2.2.2.1.map (sbC θo)) pr ++ prCopy I H' (oo.1.2.2.2.2.1.map (sbC θo)) pr)) (Nat.add (Nat.add nx I.length) (Nat.sub oo.1.1 pnx)) tab2 fs2 (Nat.add ca oo.2.1) (Nat.add cb oo.2.2) else false) else false) else false) = true := by
        have key : ∀ ρ3, agr2 (nx1 + (oo.1.1 - pnx)) ρ2 ρ3 → ∃ t1 f1, addT' θ pnx oo.1.2.1 tab fs = some (t1, f1) ∧ ∃ t2 f2, addF' θo oo.1.2.2.1 (tbO t1 nx1 pnx oo.1.1 oo.1.2.1) f1 = some (t2, f2) ∧ tOk ρ3 t2 ∧ fOk ρ3 f2 := fun ρ3 ha => by
          obtain ⟨w1, w2, -⟩ := hi.1 ρ3 (hagE ρ3 (hag0 ρ3 ha))
          obtain ⟨p1, p2, -⟩ := hpo3 ρ3 ha
          have p1' : ∀ q ∈ oo.1.2.1, q.1 < pnx → q.2.1 ≤ ev ρ3 (θ q.1) ∧ ev ρ3 (θ q.1) ≤ q.2.2 := fun q hq hlt => by
            have h1 := p1 q hq
            have e : thE ρ3 θo q.1 = ev ρ3 (θ q.1) := by
              show ev ρ3 (thN θ nx1 pnx q.1) = _
              rw [thN_lt hlt]
            rw [e] at h1
            exact h1
          obtain ⟨t1, f1, x1, x2, x3⟩ := addT_ok (θ := θ) (pnx := pnx) oo.1.2.1 tab fs w1 w2 p1'
          obtain ⟨t2, f2, y1, y2, y3⟩ := addF_ok (θ := θo) oo.1.2.2.1 (tbO t1 nx1 pnx oo.1.1 oo.1.2.1) f1 (tbO_ok x2 p1) x3 p2
          exact ⟨t1, f1, x1, t2, f2, y1, y2, y3⟩
        obtain ⟨t1, f1, x1, t2, f2, y1, y2, y3⟩ := key ρ2 agr2.rf
        refine ⟨t2, f2, fun ρ3 ha => ?_, ?_⟩
        · obtain ⟨t1', f1', x1', t2', f2', y1', y2', y3'⟩ := key ρ3 ha
          rw [x1] at x1'
          cases x1'
          rw [y1] at y1'
          cases y1'
          exact ⟨y2', y3'⟩
        · have hA' := hA
          rw [outA_def] at hA'
          try dsimp only at hA'
          rw [show addT' θ C.2.2.1.1 oo.1.2.1 tab fs = some (t1, f1) from x1] at hA'
          try dsimp only at hA'
          rw [show addF' (thN θ (Nat.add nx I.length) C.2.2.1.1) oo.1.2.2.1 (tbO t1 (Nat.add nx I.length) C.2.2.1.1 oo.1.1 oo.1.2.1) f1 = some (t2, f2) from y1] at hA'
          try dsimp only at hA'
          rw [outK_def] at hA'
          rw [aPasteZ_eq, resAll_eq] at hA'
          exact hA'
      obtain ⟨tab2, fs2, htf, hgo⟩ := hgo
      obtain ⟨g1, hgo⟩ := cand hgo
      obtain ⟨g2, hgo⟩ := cand hgo
      obtain ⟨g3, hgo⟩ := cand hgo
      have hH : ∀ ρ3, agr2 (nx1 + (oo.1.1 - pnx)) ρ2 ρ3 → rel2 (crel ρ3) hh1 (oo.1.2.2.2.2.1.map (sbC θo)) := fun ρ3 ha => sbH_ok (hpo3 ρ3 ha).2.2.2.1
      have hHr : ∀ ρ3, agr2 (nx1 + (oo.1.1 - pnx)) ρ2 ρ3 → rel2 (crel ρ3) hh1 ((oo.1.2.2.2.2.1.map (sbC θo)).map (resC nx I.length (aSubH A I))) := fun ρ3 ha => by
        have ha1 := hag0 ρ3 ha
        have := rel2_map (R := crel ρ3) (R' := crel ρ3) (f := id) (g := resC nx I.length (aSubH A I)) (fun _ _ q => resC_ok (aSubH_ok (hi.1 ρ3 (hagE ρ3 ha1)).2.2.2.2.1 hIlt) (hnum ρ3 ha1) q) (hH ρ3 ha)
        rw [List.map_id] at this
        exact this
      have hHlen := rel2_len (hH ρ2 agr2.rf)
      have hIl : I.length ≤ hh1.length := by rw [hHlen]; exact Nat.le_of_ble_eq_true g1
      have hok1 : hh1.all (okC hh1.length) = true := by rw [hHlen]; exact okA_all (hH ρ2 agr2.rf) g2
      have hw : I.length ≤ hh1.length ∧ (hh1.length = I.length ∨ (cσ.all (okC cσ.length) = true ∧ cσ.length + hh1.length < sIdx)) ∧ hh1.all (okC hh1.length) = true := by
        refine ⟨hIl, ?_, hok1⟩
        cases z : Nat.beq (oo.1.2.2.2.2.1.map (sbC θo)).length I.length with
        | true => exact Or.inl (by rw [hHlen]; exact Nat.eq_of_beq_eq_true z)
        | false =>
          rw [z] at g3
          simp only [cond_false] at g3
          obtain ⟨g3a, g3b⟩ := cand g3
          refine Or.inr ⟨by rw [hlen]; exact okA_all q5 g3a, ?_⟩
          rw [hlen, hHlen]
          exact blt_iff.mp g3b
      have hrn' : Rn d a ((cst.take b).reverse.map (rnV I)) (subH cσ I) (r, hh1, cc1, ss1) := by
        rw [← e1]
        exact Rn.mono hrn hd
      have hplen : (paste cσ I hh1).length = cσ.length + (hh1.length - I.length) := by
        unfold paste
        rw [List.length_append, List.length_mapIdx, List.length_map, List.length_drop]
      have hgood : Good scr ini o nL tb d Q (pc + 3, r.toList ++ cst.drop b, clv, paste cσ I hh1, cca + cc1, ccb + ss1) := by
        refine hk ρ2 _ _ _ _ _ _ _ _ _ _ _ _ _ _ _ hgo ⟨fun ρ3 ha => ?_, ?_, ?_⟩ ?_ ?_
        · have ha0 := hagE ρ3 (hag0 ρ3 ha)
          obtain ⟨w1, w2, w3, w4, w5, w6⟩ := hi.1 ρ3 ha0
          exact ⟨(htf ρ3 ha).1, (htf ρ3 ha).2, rel2_app (sbVs_ok (hpo3 ρ3 ha).2.2.1) (hrest ρ3 ha0), w4, aPaste_ok w5 (hHr ρ3 ha) hIl, w6⟩
        · intro ρ3 ha
          have := prNew_ok (ρ := ρ3) (cσ := cσ) hnd hIlt hIl (hi.2.1 ρ3 (hagE ρ3 (hag0 ρ3 ha))) (prSb_ok (hpo3 ρ3 ha).2.2.2.2) (hH' ρ3 (hag0 ρ3 ha)) (hH ρ3 ha)
          rw [hlen, hHlen] at this
          exact this
        · exact lvOk_le (by rw [hplen]; omega) hi.2.2
        · show cca + cc1 ≤ ca + oo.2.1; omega
        · show ccb + ss1 ≤ cb + oo.2.2; omega
      obtain ⟨R, hR1, hR2⟩ := hgood
      exact ⟨R, Ex.call hg hcall hcallIn hcut hcok hrn' hw hR1, hR2⟩
end CALL
