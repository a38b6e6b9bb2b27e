/-! ===== a run of the shadow machine is a run of the machine ===== -/
def retI (cc : ByteArray) (pc : Nat) (r : Option Value) : Prop := match r with
  | none => decode cc pc = .ok (.return_, 1)
  | some (.int _) => decode cc pc = .ok (.ireturn, 1)
  | some (.long _) => decode cc pc = .ok (.lreturn, 1)
  | _ => False
def prE (dC : Nat → ClassId) (dI : Nat → Nat → Nat) (dA : Nat → ClassId) (ρ : Nat → Nat) (σ : SH) (sz : Nat) : State → Prop := fun U => U.heap.size = sz ∧ va_P (dC, dI) classes (wld dA ρ σ) U.heap ∧ (va_K (dC, dI) classes (tysA dA) U ∧ nK U) ∧ va_D (fun _ => True) (wld dA ρ σ)
def beB (dC : Nat → ClassId) (dI : Nat → Nat → Nat) (dA : Nat → ClassId) (σ' : SH) (A0 : Nat → Prop) : (Nat → Nat) → State → Prop := fun ρ' t => va_P (dC, dI) classes (wld dA ρ' σ') t.heap ∧ va_D A0 (wld dA ρ' σ')
def qR (dC : Nat → ClassId) (dI : Nat → Nat → Nat) (dA : Nat → ClassId) (r : Option Value) (n : Nat) (ρ : Nat → Nat) (σ' : SH) (A0 : Nat → Prop) : Array Value → State → Outcome → State → Prop := match r with
  | none => va_Qv (fun ρ' : Nat → Nat => agr n ρ ρ') (beB dC dI dA σ' A0) A0
  | some (.int x) => va_Qi (fun (y : Int32) (ρ' : Nat → Nat) => y = x ∧ agr n ρ ρ') (beB dC dI dA σ' A0) A0
  | some (.long x) => va_Ql (fun (y : Int64) (ρ' : Nat → Nat) => y = x ∧ agr n ρ ρ') (beB dC dI dA σ' A0) A0
  | _ => fun _ _ _ _ => False
def wM (me : ME) : List Cond := Cond.code (mNm me) (mBy me) (mMl me) (mRt me) :: lw_g
def rmD (d c s : Nat) : Room := { frames := d, cells := c, slots := s, locals := 100 * d }
/-- calls of depth d keep their contracts -/
def CallOk (l : Launch) (dC : Nat → ClassId) (dI : Nat → Nat → Nat) (dA : Nat → ClassId) (d : Nat) (call : Nat → List Value → SH → Option Res) : Prop :=
  ∀ (mi : Nat) (as : List Value) (σ : SH) (r : Option Value) (σ1 : SH) (c1 s1 : Nat), call mi as σ = some (r, σ1, c1, s1) → ∀ me, meths[mi]? = some me → ∀ (ρ : Nat → Nat) (sz : Nat),
    Met l (mNm me) (wM me) (rmD d c1 s1) (va_Pc (as.map (cv ρ)) (prE dC dI dA ρ σ sz)) (qR dC dI dA r σ.length ρ σ1 (va_A (wld dA ρ σ) sz)) c1 s1 (va_A (wld dA ρ σ) sz)
theorem good_sub {ws : List Cond} (h : ∀ w ∈ ws, w ∈ lw_g) : GoodIn lw_g ws := fun w hw => ⟨h w hw, good_of_word (List.mem_filter.mp (h w hw)).2⟩
theorem wM_in {me : ME} (h : Cond.code (mNm me) (mBy me) (mMl me) (mRt me) ∈ lw_tbl) : ∀ w ∈ wM me, w ∈ lw_g := fun w hw => (List.mem_cons.mp hw).elim (fun q => q ▸ gd h rfl) id
theorem callIn_spec {a b : Nat} {st : List Value} {lv : LV} {σ : SH} {as rest : List Value} (h : callIn a b st lv σ = some (as, rest)) : ∃ me, meths[a]? = some me ∧ b ≤ st.length ∧ (rest.map fun v => v.category).sum ≤ 8 ∧ rest.all (okV σ.length) = true ∧ lv.all (fun q => okV σ.length q.2) = true ∧ isCls me as σ = true ∧ as.length = b ∧ st = as.reverse ++ rest := by
  unfold callIn at h
  split at h
  case h_1 me hme =>
    split at h
    case isTrue e =>
      obtain ⟨e1, e2, e3, e4⟩ := e
      simp only [Option.some.injEq, Prod.mk.injEq] at h
      obtain ⟨rfl, rfl⟩ := h
      simp only [okFr, Bool.and_eq_true] at e3
      exact ⟨me, hme, e1, e2, e3.1, e3.2, e4, by simp; omega, by simp⟩
    · cases h
  · cases h
theorem prE_blind (dC : Nat → ClassId) (dI : Nat → Nat → Nat) (dA : Nat → ClassId) (ρ : Nat → Nat) (σ : SH) (sz : Nat) (as : List Value) : FrameBlind (va_Pc as (prE dC dI dA ρ σ sz)) := fun a U g mk q => by
  obtain ⟨q0, q1, qP, qK, qD⟩ := q
  exact ⟨q0, q1, qP, ⟨va_K.moved (u := U) (U := U.calling g mk a) (Vm.Alike.refl U.vm) qK.1, fun o ix y h hm => va_Nw.same rfl rfl (qK.2.1 o ix y h hm), fun k C h4 h8 hk => (qK.2.2 k C h4 h8 hk).moved (u := U) (U := U.calling g mk a) (Vm.Alike.refl U.vm)⟩, qD⟩
section RUNS
variable {p : Program} {l : Launch} {e : Env} {R : Room} {s : State} {m : MethodId} {args : Array Value} {below : List Frame} {meth : Method} {c : Code} {H : Heap} {locs : List Loc} {cells slots : Nat} {Q : State → Prop}
variable {cc : ByteArray} {pc : Nat} {ls : Array Slot} {dC : Nat → ClassId} {dI : Nat → Nat → Nat} {dA : Nat → ClassId} {ρ : Nat → Nat} {i : Instr} {len g a b w o nL : Nat} {st st' : List Value} {lv lv' : LV} {σ σ' : SH} {ini : Bool} {A : Nat → Prop} {H0 : Heap}
set_option maxHeartbeats 4000000 in
theorem call_run {d c1 s1 n1 : Nat} {r : Option Value} {σ1 : SH} {as rest : List Value} {me : ME} {ρc : Nat → Nat} {hc : SH} (X : xC p R s m args meth c cc o nL ini dC dI dA) (hd : decode cc pc = .ok (i, len)) (hv : valE o (i, len, 7, a, b, w) = true) (hn : ilen i = 0 ∨ len = ilen i) (hci : isCall i = true)
    (hme : meths[a]? = some me) (hsum : (rest.map fun v => v.category).sum ≤ 8) (hcls : isCls me as σ = true) (hlen : as.length = b) (hst : st = as.reverse ++ rest)
    (hM : Met l (mNm me) (wM me) (rmD d c1 s1) (va_Pc (as.map (cv ρ)) (prE dC dI dA ρc hc H.size)) (qR dC dI dA r n1 ρc σ1 (va_A (wld dA ρc hc) H.size)) c1 s1 (va_A (wld dA ρc hc) H.size))
    (hR : d + 1 ≤ R.frames ∧ 100 * (d + 1) ≤ R.locals) (hl : lv_has ls nL (cvL ρ lv)) (hP : va_P (dC, dI) classes (wld dA ρ σ) H) (hPc : va_P (dC, dI) classes (wld dA ρc hc) H) (hDc : va_D (fun _ => True) (wld dA ρc hc)) (hf : cells + c1 ≤ R.cells ∧ slots + s1 ≤ R.slots) :
    va_Run p l e R s m args below meth c H locs cells slots c1 s1 (F0 m pc ls (st.map (cv ρ))) (rest.map (cv ρ)) (qR dC dI dA r n1 ρc σ1 (va_A (wld dA ρc hc) H.size) (as.map (cv ρ)).toArray) (va_A (wld dA ρc hc) H.size) := by
  obtain ⟨hx, hb, hml, hown, hts, hnk, hini, hK, hfr, hlo⟩ := X
  obtain ⟨hcode, hinit, hstat, hinst, hsel, hctor, ⟨hy1, hy2, hy3⟩, hml80, hpl, howc⟩ := me_spec hme
  have S : CallFix p m c cc nL s args lw_g (ownN o) := ⟨hx, hb, hml, hown, hts⟩
  have hG : GoodIn lw_g (wM me) := good_sub (wM_in hcode)
  have hRr : (rmD d c1 s1).frames + 1 ≤ R.frames ∧ 8 + (mMl me + 11) + (rmD d c1 s1).locals ≤ R.locals := ⟨hR.1, by show 8 + (mMl me + 11) + 100 * d ≤ _; omega⟩
  have hPre : ∀ U : State, U.heap = H → s.WarmedH U.vm → va_Pc (as.map (cv ρ)) (prE dC dI dA ρc hc H.size) (as.map (cv ρ)).toArray U := fun U hU hW => ⟨rfl, by rw [hU], by rw [hU]; exact hPc, ⟨va_K.moved hW.alike hK, hnk.warm hW⟩, hDc⟩
  have hPS : PreS s H (va_Pc (as.map (cv ρ)) (prE dC dI dA ρc hc H.size)) (as.map (cv ρ)) := ⟨prE_blind dC dI dA ρc hc H.size _, hPre⟩
  have hsum' : ((rest.map (cv ρ)).map fun v => v.category).sum ≤ 8 := by rw [sum_cat]; exact hsum
  have hstk : st.map (cv ρ) = (as.map (cv ρ)).reverse ++ rest.map (cv ρ) := by rw [hst, List.map_append, List.map_reverse]
  cases i with
  | invokevirtual ix =>
    obtain rfl := hn.resolve_left (by simp [ilen])
    obtain ⟨me', hme', hkd, hbb, hlk⟩ := call_spec (show callOk o ix a b w 0 = true from hv)
    cases hme.symm.trans hme'
    rw [if_neg (by decide)] at hbb
    simp only [isCls, hkd] at hcls
    match as, hcls, hlen, hst, hM, hPre, hPS, hstk with
    | .ref q :: tl, hcls, hlen, hst, hM, hPre, hPS, hstk =>
      simp only at hcls
      split at hcls
      case h_1 ci fs hq =>
        simp only [Bool.and_eq_true, decide_eq_true_eq] at hcls
        obtain ⟨rfl, h13⟩ := hcls
        have hrv := va_recv hK hP (classes_at h13) (wld_at hq)
        rw [show (ownN (mOw me), clT (mOw me), clN (mOw me)).1 = (mNm me).cls from howc] at hrv
        have hna : (tl.map (cv ρ)).length = mNa me := by
          simp only [List.length_cons] at hlen
          rw [List.length_map]; omega
        have hPV : PreV s H (mNm me).cls (ρ q) (va_Pc ((Value.ref q :: tl).map (cv ρ)) (prE dC dI dA ρc hc H.size)) (tl.map (cv ρ)) := ⟨prE_blind dC dI dA ρc hc H.size _, hrv, hPre⟩
        rcases hlk with hlk | hlk
        · refine va_runV (As := tl.map (cv ρ)) (b := ρ q) S hM (cwV (mNa me) hts (good_sub (ws := wsV (ownN o) ix (mNm me).cls (mNm me) (wM me)) (fun w hw => ?_)) rfl rfl rfl ⟨rfl, hy1, hy2, hy3⟩ hRr) hPV rfl hna hl.1 (by rw [hstk]; simp [cv]) (lv_room hsum') hd hf
          rcases List.mem_append.mp hw with hw | hw
          · simp only [List.mem_cons, List.not_mem_nil, or_false] at hw
            rcases hw with rfl | rfl | rfl | rfl
            · exact gd hlk rfl
            · exact gd (hinst (by omega)) rfl
            · exact gd (hsel hkd) rfl
            · exact gd hinit rfl
          · exact wM_in hcode w hw
        · exact va_runVN (As := tl.map (cv ρ)) (b := ρ q) S hM ⟨va_cnB (mNa me) hts hG rfl rfl rfl (hnk.1 _ _ _ _ hlk) (hts _ (gd hinit rfl)) ⟨hy1, hy2, hy3⟩ hRr, hts _ (gd (hinst (by omega)) rfl), hts _ (gd (hsel hkd) rfl)⟩ hPV rfl hna hl.1 (by rw [hstk]; simp [cv]) (lv_room hsum') hd hf
      · cases hcls
  | invokespecial ix =>
    obtain rfl := hn.resolve_left (by simp [ilen])
    obtain ⟨me', hme', hkd, hbb, hlk⟩ := call_spec (show callOk o ix a b w 1 = true from hv)
    cases hme.symm.trans hme'
    rw [if_neg (by decide)] at hbb
    simp only [isCls, hkd] at hcls
    match as, hcls, hlen, hst, hM, hPre, hPS, hstk with
    | .ref q :: tl, hcls, hlen, hst, hM, hPre, hPS, hstk =>
      obtain ⟨hc1, hc2⟩ := hctor hkd
      have hna : (tl.map (cv ρ)).length = mNa me := by
        simp only [List.length_cons] at hlen
        rw [List.length_map]; omega
      have hM' := hM
      rcases hlk with hlk | hlk
      · refine va_runI (As := tl.map (cv ρ)) (b := ρ q) (bytes := mBy me) (maxL := mMl me) S hM (cwI (mNa me) hts hG (by rw [← hc2]; rfl) rfl rfl (hts _ (gd hinit rfl)) (hts _ (gd hlk rfl)) (hts _ (gd (hinst (by omega)) rfl)) hc1 ⟨hy1, hy2, hy3⟩ hRr) hPS rfl hna hl.1 (by rw [hstk]; simp [cv]) (lv_room hsum') hd hf
      · refine va_runIN (As := tl.map (cv ρ)) (b := ρ q) (bytes := mBy me) (maxL := mMl me) S hM ⟨va_cnB (mNa me) hts hG (by rw [← hc2]; rfl) rfl rfl (hnk.1 _ _ _ _ hlk) (hts _ (gd hinit rfl)) ⟨hy1, hy2, hy3⟩ hRr, hc1, hts _ (gd (hinst (by omega)) rfl)⟩ hPS rfl hna hl.1 (by rw [hstk]; simp [cv]) (lv_room hsum') hd hf
  | invokestatic ix =>
    obtain rfl := hn.resolve_left (by simp [ilen])
    obtain ⟨me', hme', hkd, hbb, hlk⟩ := call_spec (show callOk o ix a b w 2 = true from hv)
    cases hme.symm.trans hme'
    rw [if_pos rfl] at hbb
    have hna : (as.map (cv ρ)).length = mNa me := by rw [List.length_map]; omega
    rcases hlk with hlk | hlk
    · refine va_runS (As := as.map (cv ρ)) S hM (va_cwS (mNa me) hts (good_sub (ws := va_wsS (ownN o) ix (mNm me) (wM me)) (fun w hw => ?_)) rfl rfl rfl ⟨hy1, hy2, hy3⟩ hRr) hPS rfl hna hl.1 hstk (lv_room hsum') hd hf
      rcases List.mem_append.mp hw with hw | hw
      · simp only [List.mem_cons, List.not_mem_nil, or_false] at hw
        rcases hw with rfl | rfl | rfl
        · exact gd hlk rfl
        · exact gd (hstat hkd) rfl
        · exact gd hinit rfl
      · exact wM_in hcode w hw
    · exact va_runSN (As := as.map (cv ρ)) S hM ⟨va_cnB (mNa me) hts hG rfl rfl rfl (hnk.1 _ _ _ _ hlk) (hts _ (gd hinit rfl)) ⟨hy1, hy2, hy3⟩ hRr, hts _ (gd (hstat hkd) rfl), trivial⟩ hPS rfl hna hl.1 hstk (lv_room hsum') hd hf
  | _ => cases hci
theorem locCall_spec {call : Nat → List Value → SH → Option Res} {a c1 s1 : Nat} {as : List Value} {σ σ1 : SH} {r : Option Value} (h : locCall call a as σ = some (r, σ1, c1, s1)) : ∃ I h1, cutOk σ as I = true ∧ call a (as.map (rnV I)) (subH σ I) = some (r, h1, c1, s1) ∧ I.length ≤ h1.length ∧ (h1.length = I.length ∨ (σ.all (okC σ.length) = true ∧ σ.length + h1.length < sIdx)) ∧ h1.all (okC h1.length) = true ∧ σ1 = paste σ I h1 := by
  unfold locCall locC at h
  split at h
  case isTrue hI =>
    cases hc : call a (as.map (rnV (cutI σ as))) (subH σ (cutI σ as)) with
    | none => simp only [hc] at h; cases h
    | some q =>
      obtain ⟨r', h1, c', s'⟩ := q
      simp only [hc] at h
      split at h
      case isTrue e =>
        simp only [Option.some.injEq, Prod.mk.injEq] at h
        obtain ⟨rfl, rfl, rfl, rfl⟩ := h
        exact ⟨cutI σ as, h1, hI, hc, e.1, e.2.1, e.2.2, rfl⟩
      · cases h
  · cases h
theorem wld_free (hD : va_D A (wld dA ρ σ)) (hS : va_S A H0 H locs) (hA : ∀ q, H0.size ≤ q → A q) : ∀ q, va_A (wld dA ρ σ) H.size q → A q := by
  intro q h
  rcases h with ⟨k, ev, h⟩ | h
  · exact hD.2 k _ h
  · exact hA q (Nat.le_trans hS.1 h)
set_option maxHeartbeats 8000000 in
theorem exec_sound {d n0 : Nat} {ρ0 : Nat → Nat} {scr : Option (List Int32)} {tb : List (List (Option XE))} {call : Nat → List Value → SH → Option Res} {r : Option Value} (X : xC p R s m args meth c cc o nL ini dC dI dA) (hcall : CallOk l dC dI dA d call) (hR : d + 1 ≤ R.frames ∧ 100 * (d + 1) ≤ R.locals)
    (htb : ∀ (pc : Nat) (i : Instr) (len g a b w : Nat), tbGet tb pc = some (i, len, g, a, b, w) → decode cc pc = .ok (i, len) ∧ valE o (i, len, g, a, b, w) = true ∧ (ilen i = 0 ∨ len = ilen i)) (hA : ∀ q, H0.size ≤ q → A q)
    (hscr : ∀ xs, scr = some xs → va_X (ρ0 sIdx) xs.length (fun j => xs.getD j 0) s H0 ∧ ρ0 sIdx < H0.size ∧ ¬ A (ρ0 sIdx)) :
    ∀ (n pc : Nat) (st : List Value) (lv : LV) (σ : SH) (kc ks : Nat), exec scr ini o nL tb call n pc st lv σ = some (r, σ', kc, ks) → ∀ (ρ : Nat → Nat) (ls : Array Slot) (H : Heap) (locs : List Loc) (cells slots : Nat), lv_has ls nL (cvL ρ lv) → va_P (dC, dI) classes (wld dA ρ σ) H → va_D A (wld dA ρ σ) → va_S A H0 H locs → cells + kc ≤ R.cells → slots + ks ≤ R.slots → agr n0 ρ0 ρ → n0 ≤ σ.length →
      (∀ (ρ' : Nat → Nat) (H' : Heap) (locs' : List Loc) (ls' : Array Slot) (pc' : Nat), agr n0 ρ0 ρ' → va_P (dC, dI) classes (wld dA ρ' σ') H' → va_D A (wld dA ρ' σ') → va_S A H0 H' locs' → retI cc pc' r → W p l e R s m args below meth c H' locs' (cells + kc) (slots + ks) Q (F0 m pc' ls' r.toList)) →
      W p l e R s m args below meth c H locs cells slots Q (F0 m pc ls (st.map (cv ρ))) := by
  intro n
  induction n with
  | zero => intro pc st lv σ kc ks h; cases h
  | succ n ih =>
    intro pc st lv σ kc ks h ρ ls H locs cells slots hl hP hD hS hc hs hag hn0 hret
    have hscr' : ∀ xs, scr = some xs → va_X (ρ sIdx) xs.length (fun j => xs.getD j 0) s H0 ∧ ρ sIdx < H0.size ∧ ¬ A (ρ sIdx) := fun xs hxs => by rw [hag sIdx (Or.inr rfl)]; exact hscr xs hxs
    cases hg : tbGet tb pc with
    | none => simp only [exec, hg] at h; cases h
    | some en =>
      obtain ⟨i, len, g, a, b, w⟩ := en
      obtain ⟨hd, hv, hn⟩ := htb pc i len g a b w hg
      simp only [exec, hg] at h
      split at h
      · cases hs1 : stepA i a st lv with
        | none => simp only [hs1] at h; cases h
        | some st' =>
          simp only [hs1] at h
          exact stepA_sound X hd hv hn hs1 hl (ih _ _ _ _ _ _ h ρ ls H locs cells slots hl hP hD hS hc hs hag hn0 hret)
      · cases hs1 : stepB i nL st lv with
        | none => simp only [hs1] at h; cases h
        | some q =>
          obtain ⟨st', lv'⟩ := q
          simp only [hs1] at h
          exact stepB_sound X hd hn hs1 hl (fun ls' hl' => ih _ _ _ _ _ _ h ρ ls' H locs cells slots hl' hP hD hS hc hs hag hn0 hret)
      · cases hs1 : stepC i pc st with
        | none => simp only [hs1] at h; cases h
        | some q =>
          obtain ⟨pc', st'⟩ := q
          simp only [hs1] at h
          exact stepC_sound X hd hn hs1 (ih _ _ _ _ _ _ h ρ ls H locs cells slots hl hP hD hS hc hs hag hn0 hret)
      · cases hs1 : stepD scr i a b st σ with
        | none => simp only [hs1] at h; cases h
        | some st' =>
          simp only [hs1] at h
          exact stepD_sound X hd hv hn hs1 hscr' hP hS (ih _ _ _ _ _ _ h ρ ls H locs cells slots hl hP hD hS hc hs hag hn0 hret)
      · cases hs1 : stepE ini o i a b st σ with
        | none => simp only [hs1] at h; cases h
        | some q =>
          obtain ⟨st', σ1⟩ := q
          simp only [hs1] at h
          exact stepE_sound X hd hv hn hs1 hl hP hD hS (fun H1 locs1 h1 h2 h3 h4 => ih _ _ _ _ _ _ h ρ ls H1 locs1 cells slots hl h1 h2 h3 hc hs hag (by omega) hret)
      · cases hs1 : stepF i a st lv σ with
        | none => simp only [hs1] at h; cases h
        | some q =>
          obtain ⟨st', σ1, k1, k2⟩ := q
          simp only [hs1] at h
          cases he : exec scr ini o nL tb call n (pc + len) st' lv σ1 with
          | none => simp only [he] at h; cases h
          | some q =>
            obtain ⟨r2, σ2, c2, s2⟩ := q
            simp only [he, Option.some.injEq, Prod.mk.injEq] at h
            obtain ⟨rfl, rfl, rfl, rfl⟩ := h
            refine stepF_sound X hd hv hn hs1 hl hP hD hS hA (by omega) (by omega) (fun ρ' H1 h1 h2 h3 h4 h5 h6 => ?_)
            refine ih _ _ _ _ _ _ he ρ' ls H1 locs (cells + k1) (slots + k2) h5 h2 h3 h4 (by omega) (by omega) (hag.tr h1 hn0) (by omega) ?_
            rw [Nat.add_assoc, Nat.add_assoc]
            exact hret
      · cases hs1 : stepR i st with
        | none => simp only [hs1] at h; cases h
        | some r1 =>
          simp only [hs1, Option.some.injEq, Prod.mk.injEq] at h
          obtain ⟨rfl, rfl, rfl, rfl⟩ := h
          have no : ∀ {P : Prop}, (none : Option (Option Value)) = some r1 → P := fun h => by cases h
          cases i with
          | ireturn =>
            obtain rfl := hn.resolve_left (by simp [ilen])
            simp only [stepR] at hs1
            split at hs1
            · cases hs1; exact hret ρ H locs ls pc hag hP hD hS hd
            · cases hs1
          | lreturn =>
            obtain rfl := hn.resolve_left (by simp [ilen])
            simp only [stepR] at hs1
            split at hs1
            · cases hs1; exact hret ρ H locs ls pc hag hP hD hS hd
            · cases hs1
          | return_ =>
            obtain rfl := hn.resolve_left (by simp [ilen])
            simp only [stepR] at hs1
            split at hs1
            · cases hs1; exact hret ρ H locs ls pc hag hP hD hS hd
            · cases hs1
          | _ => exact no hs1
      · split at h
        case isTrue hci =>
          cases hc1 : callIn a b st lv σ with
          | none => simp only [hc1] at h; cases h
          | some q =>
            obtain ⟨as, rest⟩ := q
            simp only [hc1] at h
            obtain ⟨me, hme, hbl, hsum, hok1, hok2, hcls, hlen, hst⟩ := callIn_spec hc1
            cases hr1 : locCall call a as σ with
            | none => simp only [hr1] at h; cases h
            | some q =>
              obtain ⟨r1, σ1, c1, s1⟩ := q
              simp only [hr1] at h
              obtain ⟨I, h1, hI, hcl, hN, hw9, hok9, rfl⟩ := locCall_spec hr1
              · cases he : exec scr ini o nL tb call n (pc + 3) (r1.toList ++ rest) lv (paste σ I h1) with
                | none => simp only [he] at h; cases h
                | some q =>
                  obtain ⟨r2, σ2, c2, s2⟩ := q
                  simp only [he, Option.some.injEq, Prod.mk.injEq] at h
                  obtain ⟨rfl, rfl, rfl, rfl⟩ := h
                  have hM := hcall a (as.map (rnV I)) (subH σ I) r1 h1 c1 s1 hcl me hme (rhoC ρ I) H.size
                  rw [rnM_cv (cutOk_spec hI).2.1, sub_len] at hM
                  have hrun := call_run (p := p) (e := e) (below := below) (locs := locs) (r := r1) X hd hv hn hci hme hsum hcls hlen hst hM hR hl hP (sub_P hI hP) (sub_D hI hD) (cells := cells) (slots := slots) ⟨by omega, by omega⟩
                  have hfr := wld_free hD hS hA
                  have go : ∀ (u : Nat → Nat) (t : State) (H1 : Heap) (locs1 : List Loc), t.heap = H1 → agr I.length (rhoC ρ I) u → beB dC dI dA h1 (va_A (wld dA (rhoC ρ I) (subH σ I)) H.size) u t → (∀ q : Nat, q < H.size → ¬ va_A (wld dA (rhoC ρ I) (subH σ I)) H.size q → H1[q]? = H[q]?) → va_S A H0 H1 locs1 → agr σ.length ρ (rhoN ρ u I σ.length h1.length) ∧ W p l e R s m args below meth c H1 locs1 (cells + c1) (slots + s1) Q (F0 m (pc + 3) ls ((r1.toList ++ rest).map (cv (rhoN ρ u I σ.length h1.length)))) := by
                    intro u t H1 locs1 ht hu hB hk1 hS1
                    have hag1 : agr σ.length ρ (rhoN ρ u I σ.length h1.length) := rhoN_agr (hw9.imp id (fun q => q.2))
                    obtain ⟨hP2, hD2⟩ := paste_ok hI hP hD hfr hu hN hw9 hok9 (ht ▸ hB.1) hB.2 hk1
                    refine ⟨hag1, ih _ _ _ _ _ _ he (rhoN ρ u I σ.length h1.length) ls H1 locs1 (cells + c1) (slots + s1) (by rw [cvL_agr hag1 hok2]; exact hl) hP2 hD2 hS1 (by omega) (by omega) (hag.tr hag1 hn0) (by simp [paste]; omega) ?_⟩
                    rw [Nat.add_assoc, Nat.add_assoc]
                    exact hret
                  have hfr2 : ∀ q, va_A (wld dA (rhoC ρ I) (subH σ I)) H.size q → A q := fun q h => hfr q (sub_A hI q h)
                  match r1, hrun, go with
                  | none, hrun, go =>
                    refine va_callv (a := (as.map (cv ρ)).toArray) hrun hS (fun q _ h => hfr2 q h) hfr2 (fun u t H1 locs1 ht hvm hw hB hz1 hk1 hS1 => ?_)
                    obtain ⟨hw1, h9⟩ := go u t H1 locs1 ht hw hB hk1 hS1
                    simp only [Option.toList, List.nil_append, cvM_agr hw1 hok1] at h9
                    exact h9
                  | some (.int x), hrun, go =>
                    refine va_calli (a := (as.map (cv ρ)).toArray) hrun hS (fun q _ h => hfr2 q h) hfr2 (fun y u t H1 locs1 ht hvm hw hB hz1 hk1 hS1 => ?_)
                    obtain ⟨rfl, hw⟩ := hw
                    obtain ⟨hw1, h9⟩ := go u t H1 locs1 ht hw hB hk1 hS1
                    simp only [Option.toList, List.cons_append, List.nil_append, List.map_cons, cvM_agr hw1 hok1] at h9
                    exact h9
                  | some (.long x), hrun, go =>
                    refine va_calll (a := (as.map (cv ρ)).toArray) hrun hS (fun q _ h => hfr2 q h) hfr2 (fun y u t H1 locs1 ht hvm hw hB hz1 hk1 hS1 => ?_)
                    obtain ⟨rfl, hw⟩ := hw
                    obtain ⟨hw1, h9⟩ := go u t H1 locs1 ht hw hB hk1 hS1
                    simp only [Option.toList, List.cons_append, List.nil_append, List.map_cons, cvM_agr hw1 hok1] at h9
                    exact h9
                  | some (.float x), hrun, go => exact fun T hT XT => by obtain ⟨_, _, _, _, _, _, _, _, _, _, hf, _⟩ := hrun T hT XT; exact hf.elim
                  | some (.double x), hrun, go => exact fun T hT XT => by obtain ⟨_, _, _, _, _, _, _, _, _, _, hf, _⟩ := hrun T hT XT; exact hf.elim
                  | some .null, hrun, go => exact fun T hT XT => by obtain ⟨_, _, _, _, _, _, _, _, _, _, hf, _⟩ := hrun T hT XT; exact hf.elim
                  | some (.ref x), hrun, go => exact fun T hT XT => by obtain ⟨_, _, _, _, _, _, _, _, _, _, hf, _⟩ := hrun T hT XT; exact hf.elim
                  | some (.retAddr x), hrun, go => exact fun T hT XT => by obtain ⟨_, _, _, _, _, _, _, _, _, _, hf, _⟩ := hrun T hT XT; exact hf.elim
        · cases h
      · cases h
end RUNS
theorem lg_len (ρ : Nat → Nat) (as : List Value) : (lg_sl (as.map (cv ρ))).length = (lg_sl as).length := by
  induction as with
  | nil => rfl
  | cons v vs ih =>
    simp only [lg_sl, List.map_cons, List.flatMap_cons, List.length_append, cv_cat] at ih ⊢
    rw [ih]
    split <;> rfl
theorem args_cv (ρ : Nat → Nat) (as : List Value) : ∀ i, lv_args i (as.map (cv ρ)) = cvL ρ (lv_args i as) := by
  induction as with
  | nil => intro i; rfl
  | cons v vs ih =>
    intro i
    show (i, cv ρ v) :: lv_args (if (cv ρ v).category = 2 then i + 2 else i + 1) (vs.map (cv ρ)) = (i, cv ρ v) :: cvL ρ (lv_args (if v.category = 2 then i + 2 else i + 1) vs)
    rw [ih, cv_cat]
set_option maxHeartbeats 8000000 in
/-- EVERY METHOD: what the shadow machine answers is a contract -/
theorem met_run (F : Nat) (l : Launch) (dC : Nat → ClassId) (dI : Nat → Nat → Nat) (dA : Nat → ClassId) : ∀ d, CallOk l dC dI dA d (runM F d) := by
  intro d
  induction d with
  | zero => intro mi as σ r σ1 c1 s1 h; cases h
  | succ d ih =>
    intro mi as σ r σ1 c1 s1 h me hme ρ sz
    simp only [runM, hme] at h
    by_cases hlen : (lg_sl as).length ≤ mMl me ∧ as.length = (if mKd me = 2 then mNa me else mNa me + 1)
    · rw [if_pos hlen] at h
      cases he : exec none (mKd me == 1) (mOw me) (mMl me) (mTb me) (runM F d) F 0 [] (lv_args 0 as) σ with
      | none => simp only [he] at h; cases h
      | some q =>
        obtain ⟨r2, σ2, c2, s2⟩ := q
        simp only [he] at h
        split at h
        case isTrue hrt =>
          simp only [Option.some.injEq, Prod.mk.injEq] at h
          obtain ⟨rfl, rfl, rfl, rfl⟩ := h
          obtain ⟨hcode, hinit, hstat, hinst, hsel, hctor, hy, hml80, hpl, howc⟩ := me_spec hme
          refine va_MetF (cc := mBy me) (maxL := mMl me) (ret := mRt me) (ws' := lw_g) hpl rfl ?_
          intro p e s m args below meth c s₁ B hml hv
          obtain ⟨rfl, hsz, hP, ⟨hK, hnk⟩, hD0⟩ := hv
          have hx := B.exec
          have hb := B.bytes
          have hr := B.returns
          have hts0 := atoms_spec (ws := wM me) B.pre
          have hts : ∀ w ∈ lw_g, w.before (as.map (cv ρ)).toArray s = true := fun w hw => hts0 w (List.mem_cons_of_mem _ hw)
          have hown : s.vm.findClass (ownN (mOw me)) = some m.cls := by rw [howc]; exact findClass_of_methodNamed B.named
          have hini : (mKd me == 1) = true → meth.name = "<init>" := fun hk => (name_of_methodNamed B.named B.method).1.trans (hctor (by simpa using hk)).1
          have hlocks := B.notSynchronized
          subst hsz
          have hD := hD0.self (sz := s.heap.size)
          have hl := lv_entry (as.map (cv ρ)) (n := mMl me) (by rw [lg_len]; exact hlen.1)
          rw [lg_entry_eq]
          generalize (lg_sl (as.map (cv ρ)) ++ List.replicate (mMl me - (lg_sl (as.map (cv ρ))).length) Slot.unset).toArray = ls at hl ⊢
          rw [args_cv] at hl
          have X : xC p (rmD (d + 1) c2 s2) s m (as.map (cv ρ)).toArray meth c (mBy me) (mOw me) (mMl me) (mKd me == 1) dC dI dA := ⟨hx, hb, hml, hown, hts, hnk, hini, hK, Nat.le_add_left 1 d, by show 100 ≤ 100 * (d + 1); omega⟩
          refine exec_sound (n0 := σ.length) (ρ0 := ρ) (A := va_A (wld dA ρ σ) s.heap.size) (H0 := s.heap) (scr := none) X ih ⟨Nat.le_refl _, Nat.le_refl _⟩ (fun pc i len g a b w hg => me_row hme hg) (fun q h => Or.inr h) (fun xs h => by cases h) F 0 [] (lv_args 0 as) σ c2 s2 he ρ ls s.heap [] 0 0 hl hP hD va_S.rf (by rw [Nat.zero_add]; exact Nat.le_refl _) (by rw [Nat.zero_add]; exact Nat.le_refl _) agr.rf (Nat.le_refl _) ?_
          intro ρ' H' locs' ls' pc' h1 h2 h3 h4 h5
          rw [Nat.zero_add, Nat.zero_add]
          match r2, hrt, h5 with
          | none, hrt, h5 =>
            have hr0 : mRt me = none := by
              revert hrt
              unfold retOk
              split <;> simp_all
            exact W.vret hx hb (hr.trans hr0) (fun t ht hW => ⟨⟨ρ', rfl, h1, by rw [ht]; exact h2, h3⟩, h4.F ht⟩) h4.2.2 h5
          | some (.int x), hrt, h5 =>
            have hr0 : ∃ ty, mRt me = some ty ∧ narrow ty (.int x) = .int x := by
              revert hrt
              unfold retOk
              split
              · rename_i h2'; cases h2'
              · intro _; exact ⟨.int, by assumption, rfl⟩
              · rename_i x' h1' h2'
                intro q
                cases h2'
                refine ⟨.boolean, h1', ?_⟩
                show Value.int (x &&& 1) = .int x
                rw [of_decide_eq_true q]
              · rename_i h2'; cases h2'
              · intro q; cases q
            obtain ⟨ty, e1, e2⟩ := hr0
            exact W.zret hx hb (hr.trans e1) e2 (fun t ht hW => ⟨⟨x, ρ', rfl, ⟨rfl, h1⟩, by rw [ht]; exact h2, h3⟩, h4.F ht⟩) h4.2.2 h5
          | some (.long x), hrt, h5 =>
            have hr0 : mRt me = some .long := by
              revert hrt
              unfold retOk
              split <;> simp_all
            exact W.lret hx hb (hr.trans hr0) (fun t ht hW => ⟨⟨x, ρ', rfl, ⟨rfl, h1⟩, by rw [ht]; exact h2, h3⟩, h4.F ht⟩) h4.2.2 h5
          | some (.float x), hrt, h5 => exact h5.elim
          | some (.double x), hrt, h5 => exact h5.elim
          | some .null, hrt, h5 => exact h5.elim
          | some (.ref x), hrt, h5 => exact h5.elim
          | some (.retAddr x), hrt, h5 => exact h5.elim
        · cases h
    · rw [if_neg hlen] at h; cases h
