/-! ===== what the shadow stands for: a place i of the list is the cell at address ρ i ===== -/
def ilen (i : Instr) : Nat := match i with
  | .bipush _ | .iload _ | .lload _ | .aload _ | .istore _ | .lstore _ | .astore _ | .ldc _ | .newarray _ => 2
  | .sipush _ | .ldc_w _ | .ldc2_w _ | .iinc _ _ | .if_icmp _ _ | .ifCond _ _ | .goto _ | .ifnull _ | .ifnonnull _ | .getfield _ | .putfield _ | .invokevirtual _ | .invokespecial _ | .invokestatic _ | .new _ | .anewarray _ => 3
  | .tableswitch .. | .lookupswitch .. => 0
  | _ => 1
def tbLen (tb : List (List (Option XE))) : Bool := tb.all fun r => r.all fun e => match e with
  | some e => decide (ilen e.1 = 0 ∨ e.2.1 = ilen e.1)
  | none => true
set_option maxRecDepth 100000 in
theorem ms_len : meths.all (fun q => tbLen (mTb q)) = true := by decide +kernel
set_option maxRecDepth 100000 in
theorem tbLaw_len : tbLen tbLaw = true := by decide +kernel
theorem tbGet_mem {tb : List (List (Option XE))} {pc : Nat} {e : XE} (h : tbGet tb pc = some e) : pc < 16 * tb.length ∧ ∃ r ∈ tb, some e ∈ r := by
  unfold tbGet at h
  cases h1 : tb[pc / 16]? with
  | none => rw [h1] at h; cases h
  | some r =>
    rw [h1] at h
    have hl := (List.getElem?_eq_some_iff.mp h1).1
    refine ⟨by omega, r, List.mem_of_getElem? h1, ?_⟩
    cases h2 : r[pc % 16]? with
    | none => simp [h2] at h
    | some x =>
      simp [h2] at h
      subst h
      exact List.mem_of_getElem? h2
/-- what a row of a checked table says -/
theorem tb_row {by_ : ByteArray} {o : Nat} {tb : List (List (Option XE))} (h : tbOk by_ o tb = true) (hl : tbLen tb = true) {pc : Nat} {i : Instr} {len g a b w : Nat} (hg : tbGet tb pc = some (i, len, g, a, b, w)) :
    decode by_ pc = .ok (i, len) ∧ valE o (i, len, g, a, b, w) = true ∧ (ilen i = 0 ∨ len = ilen i) := by
  obtain ⟨h1, r, hr, he⟩ := tbGet_mem hg
  have h2 := List.all_eq_true.mp h pc (List.mem_range.mpr h1)
  simp only [hg, chkE, Bool.and_eq_true, decide_eq_true_eq] at h2
  have h3 := List.all_eq_true.mp (List.all_eq_true.mp hl r hr) _ he
  simp only [decide_eq_true_eq] at h3
  exact ⟨h2.1, h2.2, h3⟩
theorem refOk_spec {o ix k a b w : Nat} (h : refOk o ix k a b w = true) : ∃ w', valR (o, ix, k, a, b, w') = true := by
  unfold refOk at h
  cases hq : RL[w]? with
  | none => rw [hq] at h; cases h
  | some q =>
    rw [hq] at h
    obtain ⟨q1, q2, q3, q4, q5, q6⟩ := q
    simp only [Bool.and_eq_true, decide_eq_true_eq] at h
    obtain ⟨rfl, rfl, rfl, rfl, rfl⟩ := h
    exact ⟨q6, List.all_eq_true.mp rl_ok _ (List.mem_of_getElem? hq)⟩
theorem ref_field {o ix a b w : Nat} (h : refOk o ix 0 a b w = true) : Cond.fieldLink (ownN o) ix (ownN a) (clT a b).2.1 (clT a b).2.2.1 ∈ lw_tbl ∧ b < clN a ∧ (clT a b).1 = ownN a ∧ a < 13 := by
  obtain ⟨w', h⟩ := refOk_spec h
  simp only [valR, Bool.and_eq_true, decide_eq_true_eq] at h
  exact ⟨List.mem_of_getElem? h.1, h.2.1, h.2.2.1, h.2.2.2⟩
theorem ref_meth {o ix a w : Nat} (h : refOk o ix 1 a 0 w = true) : ∃ me, meths[a]? = some me ∧ Cond.methodLink (ownN o) ix (mNm me) ∈ lw_tbl := by
  obtain ⟨w', h⟩ := refOk_spec h
  simp only [valR] at h
  cases hq : meths[a]? with
  | none => rw [hq] at h; cases h
  | some me =>
    rw [hq] at h
    simp only [decide_eq_true_eq] at h
    exact ⟨me, rfl, List.mem_of_getElem? h⟩
theorem ref_nest {o ix a w : Nat} (h : refOk o ix 2 a 0 w = true) : ∃ me, meths[a]? = some me ∧ Cond.methodLinkNest (ownN o) ix (mNm me) "FlyerRoom" ∈ lw_tbl := by
  obtain ⟨w', h⟩ := refOk_spec h
  simp only [valR] at h
  cases hq : meths[a]? with
  | none => rw [hq] at h; cases h
  | some me =>
    rw [hq] at h
    simp only [decide_eq_true_eq] at h
    exact ⟨me, rfl, List.mem_of_getElem? h⟩
theorem ref_obj {o ix w : Nat} (h : refOk o ix 3 0 0 w = true) : Cond.methodLink (ownN o) ix objectInit ∈ lw_tbl := by
  obtain ⟨w', h⟩ := refOk_spec h
  simp only [valR, decide_eq_true_eq] at h
  exact List.mem_of_getElem? h
theorem ref_copy {o ix w : Nat} (h : refOk o ix 4 0 0 w = true) : Cond.methodLink (ownN o) ix arraycopyName ∈ lw_tbl := by
  obtain ⟨w', h⟩ := refOk_spec h
  simp only [valR, decide_eq_true_eq] at h
  exact List.mem_of_getElem? h
theorem ref_cls {o ix a b w : Nat} (h : refOk o ix 5 a b w = true) : Cond.classLink (ownN o) ix (ownN a) ∈ lw_tbl ∧ a < 13 := by
  obtain ⟨w', h⟩ := refOk_spec h
  simp only [valR, Bool.and_eq_true, decide_eq_true_eq] at h
  exact ⟨List.mem_of_getElem? h.1, h.2⟩
theorem ref_int {o ix a b w : Nat} (h : refOk o ix 7 a b w = true) : Cond.constant (ownN o) ix (cI a) ∈ lw_tbl := by
  obtain ⟨w', h⟩ := refOk_spec h
  simp only [valR, decide_eq_true_eq] at h
  exact List.mem_of_getElem? h
theorem ref_long {o ix a b w : Nat} (h : refOk o ix 8 a b w = true) : Cond.constantLong (ownN o) ix (cL a) ∈ lw_tbl := by
  obtain ⟨w', h⟩ := refOk_spec h
  simp only [valR, decide_eq_true_eq] at h
  exact List.mem_of_getElem? h
theorem anew_spec {o ix a w : Nat} (h : anewOk o ix a w = true) : ∃ ci, Cond.classLink (ownN o) ix (ownN ci) ∈ lw_tbl ∧ ci < 13 ∧ kty a = .object (ownN ci) ∧ a < 8 ∧ 4 ≤ a := by
  unfold anewOk at h
  cases hq : RL[w]? with
  | none => rw [hq] at h; cases h
  | some q =>
    rw [hq] at h
    obtain ⟨q1, q2, q3, q4, q5, q6⟩ := q
    simp only [Bool.and_eq_true, decide_eq_true_eq] at h
    obtain ⟨rfl, rfl, rfl, hk, ha, hb⟩ := h
    have h2 := List.all_eq_true.mp rl_ok _ (List.mem_of_getElem? hq)
    simp only [valR, Bool.and_eq_true, decide_eq_true_eq] at h2
    exact ⟨q4, List.mem_of_getElem? h2.1, h2.2, hk, ha, hb⟩
theorem call_spec {o ix a b w kd : Nat} (h : callOk o ix a b w kd = true) : ∃ me, meths[a]? = some me ∧ mKd me = kd ∧ b = (if kd = 2 then mNa me else mNa me + 1) ∧ (Cond.methodLink (ownN o) ix (mNm me) ∈ lw_tbl ∨ Cond.methodLinkNest (ownN o) ix (mNm me) "FlyerRoom" ∈ lw_tbl) := by
  unfold callOk at h
  rw [Bool.and_eq_true, Bool.or_eq_true] at h
  obtain ⟨h1, h2⟩ := h
  cases hq : meths[a]? with
  | none => rw [hq] at h2; cases h2
  | some me =>
    rw [hq] at h2
    simp only [Bool.and_eq_true, decide_eq_true_eq] at h2
    refine ⟨me, rfl, h2.1, h2.2, ?_⟩
    rcases h1 with h1 | h1
    · obtain ⟨me', e1, e2⟩ := ref_meth h1
      cases hq.symm.trans e1
      exact Or.inl e2
    · obtain ⟨me', e1, e2⟩ := ref_nest h1
      cases hq.symm.trans e1
      exact Or.inr e2
/-- what the words say of a method -/
theorem me_spec {a : Nat} {me : ME} (h : meths[a]? = some me) :
    Cond.code (mNm me) (mBy me) (mMl me) (mRt me) ∈ lw_tbl ∧ Cond.initialized (mNm me).cls ∈ lw_tbl ∧ (mKd me = 2 → Cond.static (mNm me) ∈ lw_tbl) ∧ (mKd me ≠ 2 → Cond.instanceMethod (mNm me) ∈ lw_tbl) ∧
    (mKd me = 0 → Cond.selects (mNm me).cls (mNm me) (mNm me) ∈ lw_tbl) ∧ (mKd me = 1 → (mNm me).name = "<init>" ∧ mRt me = none) ∧ ((mNm me).cls ≠ "java/lang/invoke/MethodHandle" ∧ (mNm me).cls ≠ "java/lang/invoke/VarHandle" ∧ (parseMethodDescriptor (mNm me).desc).map (fun d => d.parameters.length) = some (mNa me)) ∧
    mMl me ≤ 80 ∧ plainFor (mNm me) = true ∧ ownN (mOw me) = (mNm me).cls := by
  have h2 := List.all_eq_true.mp ms_1 _ (List.mem_of_getElem? h)
  have h3 : cdP me := ms_0 me (List.mem_of_getElem? h)
  simp only [meOk1, Bool.and_eq_true, decide_eq_true_eq] at h2
  obtain ⟨h4, h5, h6, h7, h8, h9, h10, h11, h12, h13⟩ := h2
  refine ⟨List.mem_of_getElem? h3, List.mem_of_getElem? h4, fun k => ?_, fun k => ?_, fun k => ?_, fun k => ?_, ⟨h8, h9, h10⟩, h11, h12, h13⟩
  · rw [if_pos k] at h5
    exact List.mem_of_getElem? (of_decide_eq_true h5)
  · rw [if_neg k] at h5
    exact List.mem_of_getElem? (of_decide_eq_true h5)
  · rw [if_pos k] at h6
    exact List.mem_of_getElem? (of_decide_eq_true h6)
  · rw [if_pos k, Bool.and_eq_true] at h7
    exact ⟨of_decide_eq_true h7.1, of_decide_eq_true h7.2⟩
theorem me_row {a : Nat} {me : ME} (h : meths[a]? = some me) {pc : Nat} {i : Instr} {len g a b w : Nat} (hg : tbGet (mTb me) pc = some (i, len, g, a, b, w)) :
    decode (mBy me) pc = .ok (i, len) ∧ valE (mOw me) (i, len, g, a, b, w) = true ∧ (ilen i = 0 ∨ len = ilen i) :=
  tb_row (ms_2 me (List.mem_of_getElem? h)) (List.all_eq_true.mp ms_len me (List.mem_of_getElem? h)) hg
-- the words that hold in every later state; the others, said of the tables
def lw_g : List Cond := lw_tbl.filter goodWord
theorem gd {w : Cond} (h : w ∈ lw_tbl) (hg : goodWord w = true) : w ∈ lw_g := List.mem_filter.mpr ⟨h, hg⟩
def nK (U : State) : Prop := (∀ (o : String) (ix : Nat) (y : MethodName) (h : String), Cond.methodLinkNest o ix y h ∈ lw_tbl → va_Nw (.methodLinkNest o ix y h) U) ∧ ∀ (k : Nat) (C : String), 4 ≤ k → k < 8 → kty k = .object C → va_AO C U
theorem nK.warm {s U : State} (hW : s.WarmedH U.vm) (h : nK s) : nK U := ⟨fun o ix y hh hm => (h.1 o ix y hh hm).warmM hW, fun k C h4 h8 hk => (h.2 k C h4 h8 hk).moved hW.alike⟩
-- classes
theorem classes_at {a : Nat} (h : a < 13) : classes[a]? = some (ownN a, clT a, clN a) := by
  simp [classes, h]
theorem lay_good (C : String) (T : u_T) (k : Nat) : goodWord (u_lay C T k) = true := by
  unfold u_lay
  split <;> rfl
theorem cls_in {a : Nat} (h : a < 13) : ∀ w ∈ u_ws (ownN a) (clT a) (clN a), w ∈ lw_g := by
  intro w hw
  obtain ⟨k, hk, rfl⟩ := List.mem_map.mp hw
  have h1 := List.all_eq_true.mp (List.all_eq_true.mp fields_ok a (List.mem_range.mpr h)) k hk
  simp only [Bool.and_eq_true, decide_eq_true_eq] at h1
  exact gd (List.mem_of_getElem? h1.1) (lay_good _ _ _)
theorem cls_ty {a : Nat} (h : a < 13) : ∀ k, k < clN a → parseFieldDescriptor (clT a k).2.2.1 = some (clY a k) := by
  intro k hk
  have h1 := List.all_eq_true.mp (List.all_eq_true.mp fields_ok a (List.mem_range.mpr h)) k (List.mem_range.mpr hk)
  simp only [Bool.and_eq_true, decide_eq_true_eq] at h1
  exact h1.2.1
theorem cls_nm {a : Nat} (h : a < 13) : ∀ x, x < clN a → ∀ y, y < clN a → x ≠ y → (clT a x).2.1 ≠ (clT a y).2.1 := by
  intro x hx y hy hxy
  have h1 := List.all_eq_true.mp (List.all_eq_true.mp fields_ok a (List.mem_range.mpr h)) y (List.mem_range.mpr hy)
  simp only [Bool.and_eq_true, decide_eq_true_eq] at h1
  have h2 := List.all_eq_true.mp h1.2.2 x (List.mem_range.mpr hx)
  simp only [Bool.or_eq_true, decide_eq_true_eq, Bool.not_eq_true', decide_eq_false_iff_not] at h2
  rcases h2 with h2 | h2
  · exact absurd h2 hxy
  · exact h2
theorem cls_inst {a : Nat} (h : a < 13) : Cond.instantiable (ownN a) (clN a) ∈ lw_tbl := by
  have h1 := List.all_eq_true.mp inst_ok a (List.mem_range.mpr h)
  exact List.mem_of_getElem? (of_decide_eq_true h1)
-- values
def cv (ρ : Nat → Nat) (v : Value) : Value := match v with
  | .ref i => .ref (ρ i)
  | v => v
def cvC (dA : Nat → ClassId) (ρ : Nat → Nat) (c : SC) : va_E := match c with
  | .inl q => .inr (q.1, q.2.map (cv ρ))
  | .inr (k, .inl l) => .inl (dA k, l.length, .inl (fun j => l.getD j 0))
  | .inr (k, .inr (.inl l)) => .inl (dA k, l.length, .inr (.inl (fun j => l.getD j 0)))
  | .inr (k, .inr (.inr l)) => .inl (dA k, l.length, .inr (.inr (.inr (.inr (fun j => (l.getD j none).map ρ)))))
def wld (dA : Nat → ClassId) (ρ : Nat → Nat) (σ : SH) : va_W := σ.mapIdx (fun i c => (ρ i, cvC dA ρ c))
def cvL (ρ : Nat → Nat) (lv : LV) : LV := lv.map (fun q => (q.1, cv ρ q.2))
def agr (n : Nat) (ρ ρ' : Nat → Nat) : Prop := ∀ i, (i < n ∨ i = sIdx) → ρ' i = ρ i
theorem agr.rf {n : Nat} {ρ : Nat → Nat} : agr n ρ ρ := fun _ _ => rfl
theorem agr.tr {n n' : Nat} {ρ ρ1 ρ2 : Nat → Nat} (h : agr n ρ ρ1) (h2 : agr n' ρ1 ρ2) (hn : n ≤ n') : agr n ρ ρ2 := fun i hi => (h2 i (hi.elim (fun q => Or.inl (by omega)) Or.inr)).trans (h i hi)
theorem wld_get (dA : Nat → ClassId) (ρ : Nat → Nat) (σ : SH) (i : Nat) : (wld dA ρ σ)[i]? = (σ[i]?).map (fun c => (ρ i, cvC dA ρ c)) := by
  simp [wld]
theorem wld_at {dA : Nat → ClassId} {ρ : Nat → Nat} {σ : SH} {i : Nat} {c : SC} (h : σ[i]? = some c) : (wld dA ρ σ)[i]? = some (ρ i, cvC dA ρ c) := by rw [wld_get, h]; rfl
theorem wld_set {dA : Nat → ClassId} {ρ : Nat → Nat} {σ : SH} {i : Nat} {e : va_E} {c : SC} (h : e = cvC dA ρ c) : (wld dA ρ σ).set i (ρ i, e) = wld dA ρ (σ.set i c) := by
  subst h
  refine List.ext_getElem? fun j => ?_
  rw [wld_get, List.getElem?_set, List.getElem?_set, wld_get]
  by_cases hj : i = j
  · subst hj
    by_cases hl : i < σ.length
    · simp [wld, hl]
    · simp [wld, hl]
  · simp [hj]
theorem wld_app {dA : Nat → ClassId} {ρ : Nat → Nat} {σ : SH} {c : SC} : wld dA ρ (σ ++ [c]) = wld dA ρ σ ++ [(ρ σ.length, cvC dA ρ c)] := by
  simp [wld, List.mapIdx_append]
theorem cv_cat (ρ : Nat → Nat) (v : Value) : (cv ρ v).category = v.category := by cases v <;> rfl
theorem sum_cat (ρ : Nat → Nat) (r : List Value) : ((r.map (cv ρ)).map fun v => v.category).sum = (r.map fun v => v.category).sum := by
  rw [List.map_map]
  congr 1
  exact List.map_congr_left fun v _ => cv_cat ρ v
theorem lvGet_mem {lv : LV} {i : Nat} {v : Value} (h : lvGet lv i = some v) : (i, v) ∈ lv := by
  unfold lvGet at h
  cases hf : lv.find? (fun q => q.1 == i) with
  | none => rw [hf] at h; cases h
  | some q =>
    rw [hf] at h
    have h1 := List.find?_some hf
    have h2 := List.mem_of_find?_eq_some hf
    obtain ⟨q1, q2⟩ := q
    simp only [beq_iff_eq] at h1
    cases h
    rw [← h1]
    exact h2
theorem lv_cvAt {ls : Array Slot} {nL : Nat} {ρ : Nat → Nat} {lv : LV} (hl : lv_has ls nL (cvL ρ lv)) {i : Nat} {v : Value} (h : lvGet lv i = some v) : ls[i]? = some (.val (cv ρ v)) := hl.2.2 (i, cv ρ v) (List.mem_map.mpr ⟨(i, v), lvGet_mem h, rfl⟩)
theorem lvSet1_cv (ρ : Nat → Nat) (lv : LV) (i : Nat) (v : Value) : (i, cv ρ v) :: (cvL ρ lv).filter (fun q => !(q.1 == i) && !(q.1 + 1 == i && q.2.category == 2)) = cvL ρ (lvSet1 lv i v) := by
  simp [cvL, lvSet1, List.filter_map, Function.comp_def, cv_cat]
theorem lvSet2_cv (ρ : Nat → Nat) (lv : LV) (i : Nat) (v : Value) : (i, cv ρ v) :: (cvL ρ lv).filter (fun q => !(q.1 == i) && (!(q.1 == i + 1) && !(q.1 + 1 == i && q.2.category == 2))) = cvL ρ (lvSet2 lv i v) := by
  simp [cvL, lvSet2, List.filter_map, Function.comp_def, cv_cat]
theorem cv_agr {n : Nat} {ρ ρ' : Nat → Nat} (ha : agr n ρ ρ') {v : Value} (h : okV n v = true) : cv ρ' v = cv ρ v := by
  cases v with
  | ref i =>
    simp only [okV, Bool.or_eq_true, decide_eq_true_eq, beq_iff_eq] at h
    show Value.ref (ρ' i) = .ref (ρ i)
    rw [ha i h]
  | _ => rfl
theorem okVs_okV {n : Nat} {v : Value} (h : okVs n v = true) : okV n v = true := by
  cases v with
  | ref i => simp only [okVs, decide_eq_true_eq] at h; simp [okV, h]
  | _ => rfl
theorem cvM_agr {n : Nat} {ρ ρ' : Nat → Nat} (ha : agr n ρ ρ') {l : List Value} (h : l.all (okV n) = true) : l.map (cv ρ') = l.map (cv ρ) := List.map_congr_left fun v hv => cv_agr ha (List.all_eq_true.mp h v hv)
theorem cvL_agr {n : Nat} {ρ ρ' : Nat → Nat} (ha : agr n ρ ρ') {lv : LV} (h : lv.all (fun q => okV n q.2) = true) : cvL ρ' lv = cvL ρ lv := List.map_congr_left fun q hq => by rw [cv_agr ha (List.all_eq_true.mp h q hq)]
theorem cvC_agr {dA : Nat → ClassId} {n : Nat} {ρ ρ' : Nat → Nat} (ha : agr n ρ ρ') {c : SC} (h : okC n c = true) : cvC dA ρ' c = cvC dA ρ c := by
  match c, h with
  | .inl q, h =>
    show (Sum.inr (q.1, q.2.map (cv ρ')) : va_E) = .inr (q.1, q.2.map (cv ρ))
    rw [cvM_agr ha (List.all_eq_true.mpr fun v hv => okVs_okV (List.all_eq_true.mp h v hv))]
  | .inr (k, .inl l), h => rfl
  | .inr (k, .inr (.inl l)), h => rfl
  | .inr (k, .inr (.inr l)), h =>
    have e : (fun j => (l.getD j none).map ρ') = (fun j => (l.getD j none).map ρ) := by
      funext j
      rw [List.getD_eq_getElem?_getD]
      cases hj : l[j]? with
      | none => rfl
      | some x =>
        have h1 := List.all_eq_true.mp h x (List.mem_of_getElem? hj)
        cases x with
        | none => rfl
        | some i =>
          simp only [decide_eq_true_eq] at h1
          show some (ρ' i) = some (ρ i)
          rw [ha i (Or.inl h1)]
    show (Sum.inl (dA k, l.length, .inr (.inr (.inr (.inr (fun j => (l.getD j none).map ρ'))))) : va_E) = .inl (dA k, l.length, .inr (.inr (.inr (.inr (fun j => (l.getD j none).map ρ)))))
    rw [e]
theorem wld_agr {dA : Nat → ClassId} {ρ ρ' : Nat → Nat} {σ : SH} (ha : agr σ.length ρ ρ') (h : σ.all (okC σ.length) = true) : wld dA ρ' σ = wld dA ρ σ := by
  refine List.ext_getElem? fun j => ?_
  rw [wld_get, wld_get]
  cases hj : σ[j]? with
  | none => rfl
  | some c =>
    show some (ρ' j, cvC dA ρ' c) = some (ρ j, cvC dA ρ c)
    rw [cvC_agr ha (List.all_eq_true.mp h c (List.mem_of_getElem? hj)), ha j (Or.inl (List.getElem?_eq_some_iff.mp hj).1)]
-- arrays
theorem upd_set {l : List Int32} {k : Nat} {x : Int32} (h : k < l.length) : upd (fun j => l.getD j 0) k x = fun j => (l.set k x).getD j 0 := by
  funext j
  simp only [upd, List.getD_eq_getElem?_getD, List.getElem?_set]
  by_cases hj : j = k
  · subst hj; simp [h]
  · simp [hj, Ne.symm hj]
theorem updL_set {l : List Int64} {k : Nat} {x : Int64} (h : k < l.length) : vp_updL (fun j => l.getD j 0) k x = fun j => (l.set k x).getD j 0 := by
  funext j
  simp only [vp_updL, List.getD_eq_getElem?_getD, List.getElem?_set]
  by_cases hj : j = k
  · subst hj; simp [h]
  · simp [hj, Ne.symm hj]
theorem updQ_set {ρ : Nat → Nat} {l : List (Option Nat)} {k v : Nat} (h : k < l.length) : va_up (fun j => (l.getD j none).map ρ) k (some (ρ v)) = fun j => ((l.set k (some v)).getD j none).map ρ := by
  funext j
  simp only [va_up, List.getD_eq_getElem?_getD, List.getElem?_set]
  by_cases hj : j = k
  · subst hj; simp [h]
  · simp [hj, Ne.symm hj]
theorem cpy_len {f g : List Int32} {sp dp n : Nat} (h1 : sp + n ≤ f.length) (h2 : dp + n ≤ g.length) : (cpyL f g sp dp n).length = g.length := by
  simp [cpyL]; omega
theorem cpy_get {f g : List Int32} {sp dp n : Nat} (h1 : sp + n ≤ f.length) (h2 : dp + n ≤ g.length) : va_cpy (fun j => f.getD j 0) (fun j => g.getD j 0) sp dp n = fun j => (cpyL f g sp dp n).getD j 0 := by
  funext j
  simp only [va_cpy, cpyL, List.getD_eq_getElem?_getD]
  by_cases ha : j < dp
  · rw [if_neg (by omega), List.getElem?_append_left (by simp; omega), List.getElem?_take_of_lt ha]
  · rw [List.getElem?_append_right (by simp; omega)]
    simp only [List.length_take]
    rw [show min dp g.length = dp by omega]
    by_cases hb : j < dp + n
    · rw [if_pos (by omega), List.getElem?_append_left (by simp; omega), List.getElem?_take_of_lt (by omega), List.getElem?_drop]
    · rw [if_neg (by omega), List.getElem?_append_right (by simp; omega)]
      simp only [List.length_take, List.length_drop, List.getElem?_drop]
      rw [show min n (f.length - sp) = n by omega, show dp + n + (j - dp - n) = j by omega]
theorem inB_in {j : Int32} {n : Nat} (h : inB j n = true) : vp_in j n := by
  simp only [inB, Bool.and_eq_true, decide_eq_true_eq] at h
  rintro (q | q)
  · exact absurd h.1 (Int32.not_le.mpr q)
  · omega
theorem inB_lt {j : Int32} {n : Nat} (h : inB j n = true) : j.toNatClampNeg < n := by
  simp only [inB, Bool.and_eq_true, decide_eq_true_eq] at h
  exact h.2
def tysA (dA : Nat → ClassId) : List (ClassId × FieldType) := (List.range 8).map (fun k => (dA k, kty k))
theorem tysA_at {dA : Nat → ClassId} {k : Nat} (h : k < 8) : (tysA dA)[k]? = some (dA k, kty k) := by simp [tysA, h]
theorem ra_find {U : State} {c : ClassId} {ty : FieldType} (h : va_RA U c ty) : U.vm.findClass ("[" ++ ty.toString) = some c := by
  cases ty with
  | object C => obtain ⟨kA, comp, h1, h2, h3, h4⟩ := h; exact h4
  | _ => exact h
