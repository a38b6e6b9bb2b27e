/-! ===== the law's loop, a head in pieces: up to the cases of its switch, and each case ===== -/
-- a point, its cells rearranged
noncomputable def qmV (f : Nat → Nat) (a : AV) : AV := match a with
  | .inr (.inl (some q)) => .inr (.inl (some (f q)))
  | a => a
noncomputable def qmC (f : Nat → Nat) (c : AC) : AC := match c with
  | .inl (ci, as) => .inl (ci, as.map (qmV f))
  | .inr (k, .inr (.inr l)) => .inr (k, .inr (.inr (l.map (Option.map f))))
  | c => c
noncomputable def fL (L : List Nat) (i : Nat) : Nat := Option.rec (motive := fun _ => Nat) i (fun x => x) (nthQ L i)
noncomputable def perPt (f : Nat → Nat) (J : List Nat) (P : Pt) : Pt := (P.1, P.2.1, P.2.2.1, P.2.2.2.1.map (qmV f), J.map (fun i => qmC f (P.2.2.2.2.1.getD i (.inl (0, [])))), P.2.2.2.2.2.map (fun q => (q.1, q.2.1.map f, q.2.2)))
noncomputable def perPE (L J : List Nat) (p : PE) : PE := (p.1, p.2.1, perPt (fL L) J p.2.2.1, p.2.2.2.1, p.2.2.2.2.1, p.2.2.2.2.2.1, p.2.2.2.2.2.2)
noncomputable def invL (L J : List Nat) : Nat → Bool
  | 0 => true
  | n + 1 => bif (match nthQ L n with
    | some x => (match nthQ J x with
      | some y => Nat.beq y n
      | none => false)
    | none => false) then invL L J n else false
noncomputable def perOk (L J : List Nat) (n : Nat) : Bool := bif Nat.beq L.length n then (bif Nat.beq J.length n then (bif Nat.ble n sIdx then (bif invL L J n then invL J L n else false) else false) else false) else false
theorem invL_ok {L J : List Nat} : ∀ {n : Nat}, invL L J n = true → ∀ i, i < n → ∃ x, L[i]? = some x ∧ J[x]? = some i := by
  intro n
  induction n with
  | zero => intro _ i hi; omega
  | succ n ih =>
    intro h i hi
    unfold invL at h
    obtain ⟨h1, h2⟩ := cand0 h
    by_cases e : i < n
    · exact ih h2 i e
    · have : i = n := by omega
      subst this
      split at h1
      · rename_i x hx
        split at h1
        · rename_i y hy
          rw [nthQ_eq] at hx hy
          exact ⟨x, hx, by rw [hy, Nat.eq_of_beq_eq_true h1]⟩
        · cases h1
      · cases h1
theorem fL_eq (L : List Nat) (i : Nat) : fL L i = (L[i]?).getD i := by
  unfold fL
  rw [nthQ_eq]
  cases L[i]? <;> rfl
theorem per_pm {L J : List Nat} {n : Nat} (h : perOk L J n = true) : Pm n (fL L) (fL J) := by
  unfold perOk at h
  obtain ⟨a1, h⟩ := cand0 h
  obtain ⟨a2, h⟩ := cand0 h
  obtain ⟨a3, h⟩ := cand0 h
  obtain ⟨a4, a5⟩ := cand0 h
  have l1 := Nat.eq_of_beq_eq_true a1
  have l2 := Nat.eq_of_beq_eq_true a2
  have out : ∀ {M : List Nat}, M.length = n → ∀ i, n ≤ i → fL M i = i := fun hM i hi => by
    rw [fL_eq, List.getElem?_eq_none (by omega)]
    rfl
  have inn : ∀ {M K : List Nat}, K.length = n → invL M K n = true → ∀ i, i < n → fL K (fL M i) = i ∧ fL M i < n := fun hK hM i hi => by
    obtain ⟨x, h1, h2⟩ := invL_ok hM i hi
    rw [fL_eq, fL_eq, h1]
    show (_[x]?).getD x = i ∧ x < n
    rw [h2]
    refine ⟨rfl, ?_⟩
    have := (List.getElem?_eq_some_iff.mp h2).1
    omega
  refine ⟨fun i => ?_, fun i => ?_, out l1, fun i hi => (inn l2 a4 i hi).2, Nat.le_of_ble_eq_true a3⟩
  · by_cases hi : i < n
    · exact (inn l1 a5 i hi).1
    · rw [out l2 i (by omega), out l1 i (by omega)]
  · by_cases hi : i < n
    · exact (inn l2 a4 i hi).1
    · rw [out l1 i (by omega), out l2 i (by omega)]
section PER
variable {PP : Nat → List (List Int32) → List Int → Prop} {n : Nat} {f g : Nat → Nat} {ρ : Nat → Int}
theorem vrel_un (hp : Pm n f g) {v : Value} {a : AV} (h : vrel ρ v (qmV f a)) : vrel ρ (mV g v) a := by
  match a, h with
  | .inl (false, e), ⟨x, e1, e2⟩ => subst e1; exact ⟨x, rfl, e2⟩
  | .inl (true, e), ⟨x, e1, e2⟩ => subst e1; exact ⟨x, rfl, e2⟩
  | .inr (.inl (some i)), e1 =>
    have e2 : v = .ref (f i) := e1
    subst e2
    exact congrArg Value.ref (hp.gf i)
  | .inr (.inl none), e1 =>
    have e2 : v = .null := e1
    subst e2
    rfl
  | .inr (.inr (p, q)), e1 =>
    have e2 : v = .int (cmpZ (ev ρ p) (ev ρ q)) := e1
    subst e2
    rfl
theorem rel2_un {α β : Type} {R R' : α → β → Prop} {F : β → β} {G : α → α} (hi : ∀ a b, R a (F b) → R' (G a) b) : ∀ {l : List α} {r : List β}, rel2 R l (r.map F) → rel2 R' (l.map G) r
  | [], [], _ => trivial
  | a :: l, b :: r, h => ⟨hi a b h.1, rel2_un hi h.2⟩
  | [], _ :: _, h => h.elim
  | _ :: _, [], h => h.elim
theorem rel2_mk {α β : Type} {R : α → β → Prop} : ∀ {l : List α} {r : List β}, l.length = r.length → (∀ (i : Nat) (a : α) (b : β), l[i]? = some a → r[i]? = some b → R a b) → rel2 R l r
  | [], [], _, _ => trivial
  | a :: l, b :: r, h, hg => ⟨hg 0 a b rfl rfl, rel2_mk (Nat.succ.inj h) (fun i x y h1 h2 => hg (i + 1) x y h1 h2)⟩
  | [], _ :: _, h, _ => (by cases h)
  | _ :: _, [], h, _ => (by cases h)
theorem crel_un (hp : Pm n f g) {c : SC} {a : AC} (h : crel ρ c (qmC f a)) : crel ρ (mC g c) a := by
  match a, h with
  | .inl (ci, as), h =>
    have h' : ∃ fs, c = .inl (ci, fs) ∧ rel2 (vrel ρ) fs (as.map (qmV f)) := h
    obtain ⟨fs, e, h2⟩ := h'
    subst e
    exact ⟨_, rfl, rel2_un (fun v a q => vrel_un hp q) h2⟩
  | .inr (k, .inl s), h =>
    have h' : arel ρ k s c := h
    obtain ⟨k', l, e⟩ := arel_any h'
    subst e
    exact h'
  | .inr (k, .inr (.inl m)), h =>
    have h' : ∃ l : List Int64, c = .inr (k, .inr (.inl l)) ∧ jOk m l := h
    obtain ⟨l, e, h2⟩ := h'
    subst e
    exact ⟨l, rfl, h2⟩
  | .inr (k, .inr (.inr q)), h =>
    have h' : c = .inr (k, .inr (.inr (q.map (Option.map f)))) := h
    subst h'
    exact mC_comp (c := .inr (k, .inr (.inr q))) hp.gf
theorem arr_mC (g : Nat → Nat) (c : SC) : arrI (mC g c) = arrI c := by
  match c with
  | .inl (ci, fs) => rfl
  | .inr (k, .inl l) => rfl
  | .inr (k, .inr (.inl l)) => rfl
  | .inr (k, .inr (.inr l)) => rfl
/-- the heap put back in order -/
noncomputable def backH (f g : Nat → Nat) (σ : SH) : SH := (List.range σ.length).map (fun i => mC g (σ.getD (f i) (.inl (0, []))))
theorem backH_get (f g : Nat → Nat) (σ : SH) (i : Nat) (hi : i < σ.length) : (backH f g σ)[i]? = some (mC g (σ.getD (f i) (.inl (0, [])))) := by
  unfold backH
  rw [List.getElem?_map, List.getElem?_range hi]
  rfl
theorem backH_len (f g : Nat → Nat) (σ : SH) : (backH f g σ).length = σ.length := by
  unfold backH
  rw [List.length_map, List.length_range]
theorem back_sim {σ : SH} (hl : σ.length = n) (hp : Pm n f g) : Sim n f (backH f g σ) σ := by
  refine ⟨by rw [backH_len]; omega, (backH_len f g σ).symm, fun i => ?_⟩
  by_cases hi : i < σ.length
  · rw [backH_get f g σ i hi]
    have hfi : f i < σ.length := (hp.lt (by omega)).mpr hi
    rw [List.getD_eq_getElem?_getD, List.getElem?_eq_getElem hfi]
    exact congrArg some (mC_comp hp.fg _).symm
  · rw [hp.hi i (by omega), List.getElem?_eq_none (by omega), List.getElem?_eq_none (by rw [backH_len]; omega)]
    rfl
theorem back_arr {σ : SH} (hl : σ.length = n) (hp : Pm n f g) (i : Nat) : arrI ((backH f g σ).getD i (.inl (0, []))) = arrI (σ.getD (f i) (.inl (0, []))) := by
  by_cases hi : i < σ.length
  · rw [List.getD_eq_getElem?_getD, backH_get f g σ i hi]
    exact arr_mC g _
  · rw [hp.hi i (by omega), List.getD_eq_getElem?_getD, List.getD_eq_getElem?_getD, List.getElem?_eq_none (by rw [backH_len]; omega), List.getElem?_eq_none (by omega)]
theorem PGood_per {scr : Option (List Int32)} {ini : Bool} {o nL : Nat} {tb : List (List (Option XE))} {d : Nat} {G0 : List Int} {Q : Res → Prop} {ok : Option Ln → (Nat → Int) → Prop} {L J : List Nat} {p : PE} (hQ : ∀ (R : Res) (F : Value → Value) (τ : SH), (∀ x, F (.int x) = .int x) → Q R → Q (R.1.map F, τ, R.2.2)) (hper : perOk L J p.2.2.1.2.2.2.2.1.length = true) (h : PGood PP scr ini o nL tb d G0 Q ok p) : PGood PP scr ini o nL tb d G0 Q ok (perPE L J p) := by
  intro ρ cst qs clv cσ cca ccb hpt hG hqs hlen hlv hok h1 h2
  have hp := per_pm hper
  have hJl : J.length = p.2.2.1.2.2.2.2.1.length := by
    unfold perOk at hper
    exact Nat.eq_of_beq_eq_true (cand0 (cand0 hper).2).1
  obtain ⟨p1, p2, p3, p4, p5⟩ := hpt
  have p4' : rel2 (crel ρ) cσ (J.map (fun i => qmC (fL L) (p.2.2.1.2.2.2.2.1.getD i (.inl (0, []))))) := p4
  have p3' : rel2 (vrel ρ) (cst ++ qs) (p.2.2.1.2.2.2.1.map (qmV (fL L))) := p3
  have hl : cσ.length = p.2.2.1.2.2.2.2.1.length := by rw [rel2_len p4', List.length_map, hJl]
  have hgood := h ρ (cst.map (mV (fL J))) (qs.map (mV (fL J))) (mL (fL J) clv) (backH (fL L) (fL J) cσ) cca ccb ⟨p1, p2, ?_, ?_, ?_⟩ hG ?_ ?_ ?_ hok h1 h2
  · obtain ⟨R, hE, hQR⟩ := hgood
    obtain ⟨τ1, hE2⟩ := Ex_m hp (back_sim hl hp) hE
    have e1 : (cst.map (mV (fL J))).map (mV (fL L)) = cst := by
      rw [List.map_map]
      exact (List.map_congr_left fun v _ => mV_comp hp.fg v).trans (List.map_id cst)
    have e2 : mL (fL L) (mL (fL J) clv) = clv := by
      unfold mL
      rw [List.map_map]
      exact (List.map_congr_left fun q _ => (show (q.1, mV (fL L) (mV (fL J) q.2)) = q by rw [mV_comp hp.fg])).trans (List.map_id clv)
    rw [e1, e2] at hE2
    exact ⟨_, hE2, hQ R _ τ1 (fun x => rfl) hQR⟩
  · rw [← List.map_append]
    exact rel2_un (fun v a q => vrel_un hp q) p3'
  · refine rel2_mk (by rw [backH_len, hl]) fun i c a hc ha => ?_
    have hi : i < cσ.length := by
      have := (List.getElem?_eq_some_iff.mp hc).1
      rw [backH_len] at this
      exact this
    rw [backH_get _ _ _ i hi] at hc
    cases hc
    have hfi : fL L i < cσ.length := (hp.lt (by omega)).mpr hi
    obtain ⟨c', hc', hr⟩ := rel2_get (b := qmC (fL L) a) p4' (i := fL L i) (by
      rw [List.getElem?_map]
      have hJ : J[fL L i]? = some i := by
        have e := hp.gf i
        rw [fL_eq J] at e
        have hb : fL L i < J.length := by omega
        rw [List.getElem?_eq_getElem hb] at e ⊢
        exact congrArg some e
      rw [hJ]
      show some (qmC (fL L) (p.2.2.1.2.2.2.2.1.getD i (.inl (0, [])))) = _
      rw [List.getD_eq_getElem?_getD, ha]
      rfl)
    have e : cσ.getD (fL L i) (.inl (0, [])) = c' := by
      rw [List.getD_eq_getElem?_getD, hc']
      rfl
    rw [e]
    exact crel_un hp hr
  · intro q hq
    have h5 := p5 (q.1, q.2.1.map (fL L), q.2.2) (List.mem_map.mpr ⟨q, hq, rfl⟩)
    have e : q.2.1.map (fun i => arrI ((backH (fL L) (fL J) cσ).getD i (.inl (0, [])))) = (q.2.1.map (fL L)).map (fun i => arrI (cσ.getD i (.inl (0, [])))) := by
      rw [List.map_map]
      exact List.map_congr_left fun i _ => back_arr hl hp i
    rw [e]
    exact h5
  · have h6 : p.2.1.map (fun k => lvGet clv k) = qs.map some := hqs
    have e : p.2.1.map (fun k => lvGet (mL (fL J) clv) k) = (p.2.1.map (fun k => lvGet clv k)).map (Option.map (mV (fL J))) := by
      rw [List.map_map]
      exact List.map_congr_left fun k _ => lvGet_m _ clv k
    rw [e, h6, List.map_map, List.map_map]
    rfl
  · have h6 : cst.length + p.2.1.length = (p.2.2.1.2.2.2.1.map (qmV (fL L))).length := hlen
    rw [List.length_map] at h6 ⊢
    exact h6
  · intro q hq
    unfold mL at hq
    obtain ⟨q', h7, rfl⟩ := List.mem_map.mp hq
    rw [backH_len]
    show okV cσ.length (mV (fL J) q'.2) = true
    rw [okV_m hp.symm (by omega)]
    exact hlv q' h7
end PER
/-- heads, their cells rearranged: which one, where each cell goes, and back -/
abbrev EX : Type := List (Nat × List Nat × List Nat)
noncomputable def exPEs (hs : List LH) (ex : EX) : List PE := match ex with
  | [] => []
  | e :: r => (match nthQ hs e.1 with
    | some h => perPE e.2.1 e.2.2 (nextPE h) :: exPEs hs r
    | none => exPEs hs r)
noncomputable def exOk (hs : List LH) (ex : EX) : Bool := match ex with
  | [] => true
  | e :: r => bif (match nthQ hs e.1 with
    | some h => perOk e.2.1 e.2.2 h.2.2.1.2.2.2.2.1.length
    | none => true) then exOk hs r else false
theorem QL_per (R : Res) (F : Value → Value) (τ : SH) (hF : ∀ x, F (.int x) = .int x) (h : QL R) : QL (R.1.map F, τ, R.2.2) := by
  obtain ⟨h1, h2, h3⟩ := h
  refine ⟨?_, h2, h3⟩
  show R.1.map F = some (.int 1)
  rw [h1]
  exact congrArg some (hF 1)
theorem ex_good {PP : Nat → List (List Int32) → List Int → Prop} {scr : Option (List Int32)} {ini : Bool} {o nL : Nat} {tb : List (List (Option XE))} {d : Nat} {G0 : List Int} {ok : Option Ln → (Nat → Int) → Prop} {hs : List LH} : ∀ {ex : EX}, exOk hs ex = true → (∀ p ∈ hs.map nextPE, PGood PP scr ini o nL tb d G0 QL ok p) → ∀ p ∈ exPEs hs ex, PGood PP scr ini o nL tb d G0 QL ok p := by
  intro ex
  induction ex with
  | nil => intro _ _ p hp; cases hp
  | cons e r ih =>
    intro h hg p hp
    unfold exOk at h
    obtain ⟨h1, h2⟩ := cand0 h
    unfold exPEs at hp
    cases hn : nthQ hs e.1 with
    | none => rw [hn] at hp; exact ih h2 hg p hp
    | some q =>
      rw [hn] at hp h1
      rcases List.mem_cons.mp hp with h3 | h3
      · rw [h3]
        rw [nthQ_eq] at hn
        exact PGood_per QL_per h1 (hg _ (List.mem_map.mpr ⟨q, List.mem_of_getElem? hn, rfl⟩))
      · exact ih h2 hg p h3
/-- n: how many symbols stay the head's at the cases -/
noncomputable def lawM (m n : Nat) : HN := (noF, noM, m, 0, n)
theorem lawM_ok {PP : Nat → List (List Int32) → List Int → Prop} {m n : Nat} : HintOk PP (lawM m n) := ⟨noF_ok, noM_ok⟩
noncomputable def mid4 (h : LH) (p : Nat) : PE := headPE (p, h.2.1, (h.2.2.1.1, h.2.2.1.2.1, pluL (subL (sL 1) (sL 0)) 6 :: h.2.2.1.2.2.1, h.2.2.1.2.2.2), h.2.2.2)
noncomputable def hd4F (env : List Ct) (hs : List LH) (ex : EX) (ms : List Nat) (m fuel : Nat) (h : LH) : Bool := bif okLH h then runPtF true false 13 4 tbLaw env ((hs.map nextPE ++ exPEs hs ex) ++ ms.map (mid4 h)) finL (lawM m (Nat.add h.2.2.1.1 6)) fuel (headPE h) else false
noncomputable def md4F (env : List Ct) (hs : List LH) (ex : EX) (m fuel : Nat) (h : LH) (p : Nat) : Bool := runPtF true false 13 4 tbLaw env (nextPE h :: (hs.map nextPE ++ exPEs hs ex)) finL (lawM m 0) fuel (mid4 h p)
noncomputable def md4A (env : List Ct) (hs : List LH) (ex : EX) (m fuel : Nat) (h : LH) (ps : List Nat) : Bool := ps.all (md4F env hs ex m fuel h)
theorem md4_nil {env : List Ct} {hs : List LH} {ex : EX} {m fuel : Nat} {h : LH} : ∀ p ∈ ([] : List Nat), md4F env hs ex m fuel h p = true := fun _ h => (by cases h)
theorem md4_app {env : List Ct} {hs : List LH} {ex : EX} {m fuel : Nat} {h : LH} {ps qs : List Nat} (h1 : md4A env hs ex m fuel h ps = true) (h2 : ∀ p ∈ qs, md4F env hs ex m fuel h p = true) : ∀ p ∈ ps ++ qs, md4F env hs ex m fuel h p = true := by
  intro p hp
  rcases List.mem_append.mp hp with h3 | h3
  · exact List.all_eq_true.mp h1 p h3
  · exact h2 p h3
theorem hd4_ok {PP : Nat → List (List Int32) → List Int → Prop} (hFP : FPok PP) {m m' fuel : Nat} {env : List Ct} {hs : List LH} {ex : EX} {ms : List Nat} {q : LH} (hqm : q ∈ hs) (hE : ∀ C ∈ env, ValidC PP C ∧ C.2.1 ≤ 799) (h : hd4F env hs ex ms m fuel q = true) (hm : ∀ p ∈ ms, md4F env hs ex m' fuel q p = true) {xs : List Int32} {b : Int} (hl : xs.length < 2 ^ 30) (hb : 0 ≤ b) (hP : ∀ p ∈ hs.map nextPE ++ exPEs hs ex, PGood PP (some xs) false 13 4 tbLaw 799 ((xs.length : Int) :: b :: wsAt xs b) QL (fun _ _ => True) p) : okLH q = true ∧ PGood PP (some xs) false 13 4 tbLaw 799 ((xs.length : Int) :: b :: wsAt xs b) QL (fun r ρ => ∀ r', r = some r' → ev ρ r' = 0) (headPE q) := by
  unfold hd4F at h
  obtain ⟨c1, c2⟩ := cand h
  refine ⟨c1, ?_⟩
  rw [runPtF_eq] at c2
  have hsc : scG true (some xs) ((xs.length : Int) :: b :: wsAt xs b) := ⟨rfl, by omega, b, _, rfl, fun c v hv k hk hlt => wsAt_ok hv k hk hlt⟩
  refine runPt_ok (PP := PP) hFP lawM_ok (p := headPE q) (scr := some xs) (G0 := (xs.length : Int) :: b :: wsAt xs b) (Q := QL) (K := 0) (law := true) hsc finL_ok hE (Or.inr law_sn) (fun p' hp' => ?_) c2
  intro ρ1 cst1 qs1 clv1 cσ1 cca1 ccb1 a1 a2 a3 a4 a5 a6 a7 a8
  rcases List.mem_append.mp hp' with h3 | h3
  · exact hP p' h3 ρ1 cst1 qs1 clv1 cσ1 cca1 ccb1 a1 a2 a3 a4 a5 trivial a7 a8
  · obtain ⟨pc, h4, rfl⟩ := List.mem_map.mp h3
    have h5 := hm pc h4
    unfold md4F at h5
    rw [runPtF_eq] at h5
    exact runPt_ok (PP := PP) hFP lawM_ok (p := mid4 q pc) (scr := some xs) (G0 := (xs.length : Int) :: b :: wsAt xs b) (Q := QL) (K := 0) (law := true) hsc finL_ok hE (Or.inr law_sn) (fun p' hp' => by
      have hp2 : p' ∈ hs.map nextPE ++ exPEs hs ex := by
        rcases List.mem_cons.mp hp' with h9 | h9
        · rw [h9]
          exact List.mem_append_left _ (List.mem_map.mpr ⟨q, hqm, rfl⟩)
        · exact h9
      intro ρ1 cst1 qs1 clv1 cσ1 cca1 ccb1 a1 a2 a3 a4 a5 a6 a7 a8
      exact hP p' hp2 ρ1 cst1 qs1 clv1 cσ1 cca1 ccb1 a1 a2 a3 a4 a5 trivial a7 a8) h5 ρ1 cst1 qs1 clv1 cσ1 cca1 ccb1 a1 a2 a3 a4 a5 (fun r' hr' => by cases hr') a7 a8
theorem hd4_l {env : List Ct} {hs : List LH} {ex : EX} {ms : List Nat} {m fuel : Nat} {q : LH} (h : hd4F env hs ex ms m fuel q = true) : okLH q = true := by
  unfold hd4F at h
  exact (cand h).1
set_option maxHeartbeats 4000000 in
theorem law4_ok {PP : Nat → List (List Int32) → List Int → Prop} (hFP : FPok PP) {N fuel m m' : Nat} {ms : List Nat} {env : List Ct} {hs : List LH} {ex : EX} (hN : N < 2 ^ 30) (hE : ∀ C ∈ env, ValidC PP C ∧ C.2.1 ≤ 799) (hx : exOk hs ex = true) (h : enLaw2 N env hs fuel = true) (hh : ∀ q ∈ hs, hd4F env hs ex ms m fuel q = true ∧ ∀ p ∈ ms, md4F env hs ex m' fuel q p = true) (xs : List Int32) (hxs : xs.length ≤ N) : lawRuns xs := by
  have key : ∀ (n : Nat) (b : Int), (xs.length : Int) - b ≤ n → -6 ≤ b → ∀ (w : List Int), ∀ p ∈ hs.map nextPE, PGood PP (some xs) false 13 4 tbLaw 799 ((xs.length : Int) :: b :: w) QL (fun _ _ => True) p := by
    intro n
    induction n with
    | zero =>
      intro b hb hb6 w p hp ρ cst qs clv cσ cca ccb hpt hG hqs hlen hlv _ h1 h2
      exfalso
      obtain ⟨q, hq, rfl⟩ := List.mem_map.mp hp
      have c1 := hd4_l (hh q hq).1
      obtain ⟨d1, d2⟩ := cand c1
      obtain ⟨d3, d4⟩ := cand d2
      obtain ⟨p1, p2, -⟩ := hpt
      have f1 := p2 _ List.mem_cons_self
      have f2 := p2 _ (List.mem_cons_of_mem _ List.mem_cons_self)
      have f3 := le0_ok (tbOf_ok p1) (fun e he => p2 e (List.mem_cons_of_mem _ (List.mem_cons_of_mem _ he))) d4
      simp only [nextPE, List.map_cons, List.cons.injEq, ev_s] at hG
      rw [ev_sub, ev_plu, ev_s, ev_s] at f1
      rw [ev_sub, ev_plu, ev_s, ev_s] at f2
      rw [ev_sub, ev_s, ev_s] at f3
      obtain ⟨g1, g2, -⟩ := hG
      omega
    | succ n ih =>
      intro b hb hb6 w p hp ρ cst qs clv cσ cca ccb hpt hG hqs hlen hlv _ h1 h2
      obtain ⟨q, hq, rfl⟩ := List.mem_map.mp hp
      have c1 := hd4_l (hh q hq).1
      obtain ⟨d1, d2⟩ := cand c1
      obtain ⟨d3, d4⟩ := cand d2
      have hm2 : 2 ≤ q.2.2.1.1 := Nat.le_of_ble_eq_true d3
      obtain ⟨p1, p2, p3, p4, p5⟩ := hpt
      have f1 := p2 _ List.mem_cons_self
      have f2 := p2 _ (List.mem_cons_of_mem _ List.mem_cons_self)
      have hfs : fOk ρ q.2.2.1.2.2.1 := fun e he => p2 e (List.mem_cons_of_mem _ (List.mem_cons_of_mem _ he))
      have f3 := le0_ok (tbOf_ok p1) hfs d4
      simp only [nextPE, List.map_cons, List.cons.injEq, ev_s] at hG
      rw [ev_sub, ev_plu, ev_s, ev_s] at f1
      rw [ev_sub, ev_plu, ev_s, ev_s] at f2
      rw [ev_sub, ev_s, ev_s] at f3
      obtain ⟨g1, g2, -⟩ := hG
      have hpt0 : PtOk PP ρ q.2.2.1 (cst ++ qs) cσ := ⟨p1, hfs, p3, p4, p5⟩
      let ρ2 : Nat → Int := fun s => if s < q.2.2.1.1 then ρ s else (wsAt xs (b + 6)).getD (s - q.2.2.1.1) 0
      have hag : agr2 q.2.2.1.1 ρ ρ2 := fun i hi => if_pos hi
      obtain ⟨k1, k2, k3, k4, k5⟩ := PtOk_agr d1 hag hpt0
      have hw : ∀ i, ρ2 (q.2.2.1.1 + i) = (wsAt xs (b + 6)).getD i 0 := fun i => by
        show (if q.2.2.1.1 + i < q.2.2.1.1 then _ else _) = _
        rw [if_neg (by omega), Nat.add_sub_cancel_left]
      obtain ⟨-, hgood⟩ := hd4_ok (PP := PP) hFP hq hE (hh q hq).1 (hh q hq).2 (xs := xs) (b := b + 6) (by omega) (by omega) (fun p' hp' => (List.mem_append.mp hp').elim (fun hp' => ih (b + 6) (by omega) (by omega) _ p' hp') (fun hp' => ex_good hx (fun p2 hp2 => ih (b + 6) (by omega) (by omega) _ p2 hp2) p' hp'))
      refine hgood ρ2 cst qs clv cσ cca ccb ⟨?_, k2, k3, k4, k5⟩ ?_ hqs hlen hlv (fun r' hr' => by cases hr') h1 h2
      · intro s hs
        rcases (List.mem_append.mp hs).symm with hs | hs
        · refine wTab_ok (c := 6) (s := q.2.2.1.1) (fun i hi1 hi2 => ?_) s hs
          obtain ⟨j, rfl⟩ : ∃ j, i = q.2.2.1.1 + j := ⟨i - q.2.2.1.1, by omega⟩
          rw [hw]
          match j, hi2 with
          | 0, _ => exact in32 _
          | 1, _ => exact in32 _
          | 2, _ => exact in32 _
          | 3, _ => exact in32 _
          | 4, _ => exact in32 _
          | 5, _ => exact in32 _
          | j + 6, hi2 => omega
        · exact k1 s hs
      · have e0 : ρ2 0 = ρ 0 := if_pos (by omega)
        have e1 : ρ2 1 = ρ 1 := if_pos (by omega)
        have w0 := hw 0
        have w1 := hw 1
        have w2 := hw 2
        have w3 := hw 3
        have w4 := hw 4
        have w5 := hw 5
        show ev ρ2 (sL 0) :: ev ρ2 (sL 1) :: (symsL 6 q.2.2.1.1).map (ev ρ2) = _
        rw [ev_s, ev_s, e0, e1, g1, show ρ 1 = b + 6 by omega]
        simp only [symsL, List.map_cons, List.map_nil, ev_s]
        show _ :: _ :: [ρ2 (q.2.2.1.1 + 0), ρ2 (q.2.2.1.1 + 1), ρ2 (q.2.2.1.1 + 2), ρ2 (q.2.2.1.1 + 3), ρ2 (q.2.2.1.1 + 4), ρ2 (q.2.2.1.1 + 5)] = _
        rw [w0, w1, w2, w3, w4, w5]
        rfl
  generalize hr : (fun s => if s = 0 then (xs.length : Int) else 0 : Nat → Int) = ρ0
  have r0 : ρ0 0 = (xs.length : Int) := by rw [← hr]; rfl
  have hgood := go_ok (PP := PP) hFP lawH_ok (scr := some xs) (scl := some (sL 0, kL (.negSucc 5), zs6)) (G0 := ((xs.length : Int) :: -6 :: zs6.map (ev ρ0))) (rk := none) (K := 0) (finL_ok (sL 0 :: kL (.negSucc 5) :: zs6)) hE (Or.inr law_sn) (fun p hq => by
    intro ρ1 cst1 qs1 clv1 cσ1 cca1 ccb1 a1 a2 a3 a4 a5 a6 a7 a8
    exact key (xs.length + 6) (-6) (by omega) (by omega) _ p hq ρ1 cst1 qs1 clv1 cσ1 cca1 ccb1 a1 a2 a3 a4 a5 trivial a7 a8) fuel true ρ0 _ _ _ _ _ _ _ _ _ _ [] [(0, .ref sIdx)] [] 0 0 h ⟨fun ρ' ha => ?_, fun _ _ p hq => (by cases hq), ?_⟩ (Nat.le_refl _) (Nat.le_refl _)
  · obtain ⟨R, ⟨F, n, kc, ks, he, e1, e2⟩, hq1, hq2, hq3⟩ := hgood
    try dsimp only at he e1 e2
    rw [Nat.zero_add] at e1 e2
    obtain ⟨r, σ', a, b⟩ := R
    try dsimp only at hq1 hq2 hq3 e1 e2 he
    subst hq1
    exact ⟨F, 799, n, σ', kc, ks, he, by decide, by omega, by omega⟩
  · have h0 : ρ' 0 = (xs.length : Int) := (ha 0 (by decide)).trans r0
    have hW : zs6.map (ev ρ') = zs6.map (ev ρ0) := by
      simp only [zs6, List.map_cons, List.map_nil, ev_k]
    refine ⟨tbOf_ok (fun q hq => ?_), fun f hf => (by cases hf), trivial, fun q hq => ?_, trivial, ?_, ⟨?_, by omega, ?_⟩, fun r hr => (by cases hr)⟩
    · rw [List.mem_singleton.mp hq]
      show (0 : Int) ≤ ρ' 0 ∧ ρ' 0 ≤ (N : Int)
      rw [h0]
      omega
    · rw [List.mem_singleton.mp hq]
      exact ⟨.ref sIdx, rfl, rfl⟩
    · show ev ρ' (sL 0) :: ev ρ' (kL (.negSucc 5)) :: zs6.map (ev ρ') = _
      rw [ev_s, h0, ev_k, hW]
      rfl
    · rw [ev_s, h0]
    · intro c w hc k hk hlt
      rw [ev_k] at hk
      have hc6 : c < 6 := (List.getElem?_eq_some_iff.mp hc).1
      have : (k : Int) = -6 + c := hk
      omega
  · intro q hq
    rw [List.mem_singleton.mp hq]
    rfl
