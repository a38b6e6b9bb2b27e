/-! ===== writes and new cells ===== -/
theorem copyW_native : Cond.native arraycopyName ∈ lw_tbl := List.mem_of_getElem? (i := 827) (by decide +kernel)
theorem copyW_static : Cond.static arraycopyName ∈ lw_tbl := List.mem_of_getElem? (i := 826) (by decide +kernel)
theorem copyW_init : Cond.initialized "java/lang/System" ∈ lw_tbl := List.mem_of_getElem? (i := 84) (by decide +kernel)
theorem objW_inst : Cond.instanceMethod objectInit ∈ lw_tbl := List.mem_of_getElem? (i := 92) (by decide +kernel)
theorem objW_code : Cond.code objectInit ⟨#[0xb1]⟩ 1 none ∈ lw_tbl := List.mem_of_getElem? (i := 93) (by decide +kernel)
def fJs : List Nat := [70, 71, 76, 72, 73, 74, 75, 77, 79, 78, 80, 85, 81]
theorem init_ok : (List.range 13).all (fun ci => decide (lw_tbl[fJs.getD ci 0]? = some (.initialized (ownN ci)))) = true := by decide +kernel
theorem init_in {a : Nat} (h : a < 13) : Cond.initialized (ownN a) ∈ lw_tbl := List.mem_of_getElem? (of_decide_eq_true (List.all_eq_true.mp init_ok a (List.mem_range.mpr h)))
theorem arrW_0 : Cond.arrayClass (kty 0) ∈ lw_tbl := List.mem_of_getElem? (i := 135) (by decide +kernel)
theorem arrW_1 : Cond.arrayClass (kty 1) ∈ lw_tbl := List.mem_of_getElem? (i := 193) (by decide +kernel)
theorem arrW_2 : Cond.arrayClass (kty 2) ∈ lw_tbl := List.mem_of_getElem? (i := 192) (by decide +kernel)
theorem arrW_3 : Cond.arrayClass (kty 3) ∈ lw_tbl := List.mem_of_getElem? (i := 1220) (by decide +kernel)
theorem arrW_in {ty : ArrayType} {k : Nat} (h : newarray.typeOf ty = kty k) (hk : k < 4) : Cond.arrayClass (newarray.typeOf ty) ∈ lw_tbl := by
  rw [h]
  rcases (show k = 0 ∨ k = 1 ∨ k = 2 ∨ k = 3 by omega) with rfl | rfl | rfl | rfl
  · exact arrW_0
  · exact arrW_1
  · exact arrW_2
  · exact arrW_3
theorem overW_4 : Cond.arrayOver (kty 4) ∈ lw_tbl := List.mem_of_getElem? (i := 101) (by decide +kernel)
theorem overW_5 : Cond.arrayOver (kty 5) ∈ lw_tbl := List.mem_of_getElem? (i := 352) (by decide +kernel)
theorem overW_6 : Cond.arrayOver (kty 6) ∈ lw_tbl := List.mem_of_getElem? (i := 520) (by decide +kernel)
theorem overW_7 : Cond.arrayOver (kty 7) ∈ lw_tbl := List.mem_of_getElem? (i := 521) (by decide +kernel)
theorem over_mem {a : Nat} (h4 : 4 ≤ a) (h8 : a < 8) : Cond.arrayOver (kty a) ∈ lw_tbl := by
  rcases (show a = 4 ∨ a = 5 ∨ a = 6 ∨ a = 7 by omega) with rfl | rfl | rfl | rfl
  · exact overW_4
  · exact overW_5
  · exact overW_6
  · exact overW_7
theorem nK_of {s : State} {args : Array Value} (hts : ∀ w ∈ lw_tbl, w.before args s = true) : nK s := ⟨fun o ix y h hm => va_Nw.of rfl (hts _ hm), fun k C h4 h8 hk => by
  have h := hts _ (over_mem h4 h8)
  rw [hk] at h
  exact h⟩
theorem blank_i (cA : ClassId) (n : Nat) : vp_cell cA ((List.replicate n (0 : Int32)).length, .inl (fun j => (List.replicate n (0 : Int32)).getD j 0)) = arrV cA n (fun _ => .int 0) := by
  rw [vp_cell_i, List.length_replicate]
  congr 1
  funext j
  rw [List.getD_eq_getElem?_getD, List.getElem?_replicate]
  split <;> rfl
theorem blank_l (cA : ClassId) (n : Nat) : vp_cell cA ((List.replicate n (0 : Int64)).length, .inr (.inl (fun j => (List.replicate n (0 : Int64)).getD j 0))) = arrV cA n (fun _ => .long 0) := by
  rw [vp_cell_l, List.length_replicate]
  congr 1
  funext j
  rw [List.getD_eq_getElem?_getD, List.getElem?_replicate]
  split <;> rfl
theorem nones (ρ : Nat → Nat) (n : Nat) : (fun j => ((List.replicate n (none : Option Nat)).getD j none).map ρ) = fun _ => none := by
  funext j
  rw [List.getD_eq_getElem?_getD, List.getElem?_replicate]
  split <;> rfl
theorem fitF_ok {ty : FieldType} {v : Value} (ρ : Nat → Nat) (h : fitF ty v = true) : narrow ty (cv ρ v) = cv ρ v ∧ fits ty (cv ρ v) = true := by
  unfold fitF at h
  split at h <;> first | exact ⟨rfl, rfl⟩ | cases h
theorem default_cv (ρ : Nat → Nat) (ty : FieldType) : cv ρ (defaultValue ty) = defaultValue ty := by cases ty <;> rfl
theorem blank_cv (ρ : Nat → Nat) (a : Nat) : (blankF a).map (cv ρ) = blankF a := by
  unfold blankF
  rw [List.map_map]
  exact List.map_congr_left fun k _ => default_cv ρ _
theorem blank_at (a : Nat) : ∀ j, j < clN a → defaultValue (clY a j) = vp_V (blankF a) j := by
  intro j hj
  simp [vp_V, blankF, List.getD_eq_getElem?_getD, hj]
theorem sI_inv {κ : Nat} {ty : FieldType} {st st' : List Value} {σ σ' : SH} (h : sI κ ty st σ = some (st', σ')) : ∃ x j q li, st = .int x :: .int j :: .ref q :: st' ∧ σ[q]? = some (.inr (κ, .inl li)) ∧ inB j li.length = true ∧ σ' = σ.set q (.inr (κ, .inl (li.set j.toNatClampNeg (vp_nar ty x)))) := by
  unfold sI at h
  split at h
  · split at h
    · split at h
      case isTrue q => cases h; obtain ⟨rfl, q⟩ := q; exact ⟨_, _, _, _, rfl, by assumption, q, rfl⟩
      · cases h
    · cases h
  · cases h
theorem narI_int (x : Int32) : vp_nar .int x = x := rfl
theorem cvI_set {dA : Nat → ClassId} {ρ : Nat → Nat} {κ : Nat} {li : List Int32} {j : Nat} {x : Int32} (h : j < li.length) : (Sum.inl (dA κ, li.length, .inl (upd (fun j => li.getD j 0) j x)) : va_E) = cvC dA ρ (.inr (κ, .inl (li.set j x))) := by
  rw [upd_set h]
  show _ = (Sum.inl (dA κ, (li.set j x).length, .inl _) : va_E)
  rw [List.length_set]
theorem cvL_set {dA : Nat → ClassId} {ρ : Nat → Nat} {κ : Nat} {li : List Int64} {j : Nat} {x : Int64} (h : j < li.length) : (Sum.inl (dA κ, li.length, .inr (.inl (vp_updL (fun j => li.getD j 0) j x))) : va_E) = cvC dA ρ (.inr (κ, .inr (.inl (li.set j x)))) := by
  rw [updL_set h]
  show _ = (Sum.inl (dA κ, (li.set j x).length, .inr (.inl _)) : va_E)
  rw [List.length_set]
theorem cvQ_set {dA : Nat → ClassId} {ρ : Nat → Nat} {κ : Nat} {li : List (Option Nat)} {j v : Nat} (h : j < li.length) : (Sum.inl (dA κ, li.length, .inr (.inr (.inr (.inr (va_up (fun j => (li.getD j none).map ρ) j (some (ρ v))))))) : va_E) = cvC dA ρ (.inr (κ, .inr (.inr (li.set j (some v))))) := by
  rw [updQ_set h]
  show _ = (Sum.inl (dA κ, (li.set j (some v)).length, .inr (.inr (.inr (.inr _)))) : va_E)
  rw [List.length_set]
theorem fits_at {ty : FieldType} {f : List Int32} (h : f.all (fun x => fits ty (.int x)) = true) {k : Nat} (hk : k < f.length) : fits ty (.int (f.getD k 0)) = true := by
  rw [List.getD_eq_getElem?_getD, List.getElem?_eq_getElem hk]
  exact List.all_eq_true.mp h _ (List.getElem_mem hk)
theorem toNat_nonneg {n : Int32} (h : 0 ≤ n) : ¬ n < 0 := Int32.not_lt.mpr h
section STEPS2
variable {p : Program} {l : Launch} {e : Env} {R : Room} {s : State} {m : MethodId} {args : Array Value} {below : List Frame} {meth : Method} {c : Code} {H : Heap} {locs : List Loc} {cells slots : Nat} {Q : State → Prop}
variable {cc : ByteArray} {pc : Nat} {ls : Array Slot} {dC : Nat → ClassId} {dI : Nat → Nat → Nat} {dA : Nat → ClassId} {ρ : Nat → Nat} {i : Instr} {len g a b w o nL : Nat} {st st' : List Value} {lv lv' : LV} {σ σ' : SH} {ini : Bool} {A : Nat → Prop} {H0 : Heap}
set_option maxHeartbeats 4000000 in
theorem stepE_sound (X : xC p R s m args meth c cc o nL ini dC dI dA) (hd : decode cc pc = .ok (i, len)) (hv : valE o (i, len, 4, a, b, w) = true) (hn : ilen i = 0 ∨ len = ilen i) (h : stepE ini o i a b st σ = some (st', σ'))
    (hl : lv_has ls nL (cvL ρ lv)) (hP : va_P (dC, dI) classes (wld dA ρ σ) H) (hD : va_D A (wld dA ρ σ)) (hS : va_S A H0 H locs)
    (kk : ∀ (H1 : Heap) (locs1 : List Loc), va_P (dC, dI) classes (wld dA ρ σ') H1 → va_D A (wld dA ρ σ') → va_S A H0 H1 locs1 → σ'.length = σ.length → W p l e R s m args below meth c H1 locs1 cells slots Q (F0 m (pc + len) ls (st'.map (cv ρ)))) : W p l e R s m args below meth c H locs cells slots Q (F0 m pc ls (st.map (cv ρ))) := by
  obtain ⟨hx, hb, hml, hown, hts, hnk, hini, hK, hfr, hlo⟩ := X
  have no : ∀ {P : Prop}, (none : Option (List Value × SH)) = some (st', σ') → P := fun h => by cases h
  cases i with
  | putfield ix =>
    obtain rfl := hn.resolve_left (by simp [ilen])
    obtain ⟨hf, hbN, hdc, ha⟩ := ref_field hv
    simp only [stepE] at h
    split at h
    case h_1 v q r =>
      split at h
      case h_1 ci fs hq =>
        split at h
        case isTrue e =>
          obtain ⟨rfl, hbl, hfit, hfin⟩ := e
          cases h
          obtain ⟨hn1, hn2⟩ := fitF_ok ρ hfit
          have he : ((Sum.inr (ci, (fs.map (cv ρ)).set b (cv ρ v))) : va_E) = cvC dA ρ (.inl (ci, fs.set b v)) := by
            show _ = (Sum.inr (ci, (fs.set b v).map (cv ρ)) : va_E)
            rw [List.map_set]
          have hbl' : b < (fs.map (cv ρ)).length := by rw [List.length_map]; exact hbl
          cases hz : (clT ci b).2.2.2 with
          | false =>
            refine va_put (T := clT ci) hx hb hts (cls_in ha) (clY ci) (cls_ty ha) (cls_nm ha) hown hK hP hD hS q (wld_at hq) (classes_at ha) b hbN (hts _ (gd hf rfl)) (by rw [hdc]; exact fun x hx => hx) hz (cls_ty ha b hbN) hn1 hn2 hbl' hd (fun H1 locs1 h1 h2 h3 => ?_)
            rw [wld_set he] at h1 h2
            exact kk H1 locs1 h1 h2 h3 (by simp)
          | true =>
            rcases hfin with hfin | ⟨hi, ho⟩
            · rw [hz] at hfin; cases hfin
            · refine va_putF (T := clT ci) hx hb hts (cls_in ha) (clY ci) (cls_ty ha) (cls_nm ha) hown hK hP hD hS q (wld_at hq) (classes_at ha) b hbN (hts _ (gd hf rfl)) (by rw [hdc]; exact fun x hx => hx) hz (hini hi) (by rw [hdc, ho]) (cls_ty ha b hbN) hn1 hn2 hbl' hd (fun H1 locs1 h1 h2 h3 => ?_)
              rw [wld_set he] at h1 h2
              exact kk H1 locs1 h1 h2 h3 (by simp)
        · cases h
      · cases h
    · cases h
  | iastore =>
    obtain rfl := hn.resolve_left (by simp [ilen])
    obtain ⟨x, j, q, li, rfl, hq, hj, rfl⟩ := sI_inv h
    refine va_iast hx hb hK hP hD hS q 0 (wld_at hq) (tysA_at (by decide)) (inB_in hj) hd (fun H1 locs1 h1 h2 h3 => ?_)
    rw [wld_set (cvI_set (inB_lt hj))] at h1 h2
    exact kk H1 locs1 h1 h2 h3 (by simp)
  | castore =>
    obtain rfl := hn.resolve_left (by simp [ilen])
    obtain ⟨x, j, q, li, rfl, hq, hj, rfl⟩ := sI_inv h
    refine va_cast hx hb hK hP hD hS q 2 (wld_at hq) (tysA_at (by decide)) (inB_in hj) hd (fun H1 locs1 h1 h2 h3 => ?_)
    rw [wld_set (cvI_set (inB_lt hj))] at h1 h2
    exact kk H1 locs1 h1 h2 h3 (by simp)
  | bastore =>
    obtain rfl := hn.resolve_left (by simp [ilen])
    obtain ⟨x, j, q, li, rfl, hq, hj, rfl⟩ := sI_inv h
    refine va_zast hx hb hK hP hD hS q 3 (wld_at hq) (tysA_at (by decide)) (inB_in hj) hd (fun H1 locs1 h1 h2 h3 => ?_)
    rw [wld_set (cvI_set (inB_lt hj))] at h1 h2
    exact kk H1 locs1 h1 h2 h3 (by simp)
  | lastore =>
    obtain rfl := hn.resolve_left (by simp [ilen])
    simp only [stepE] at h
    split at h
    case h_1 x j q r =>
      split at h
      case h_1 k li hq =>
        split at h
        case isTrue e =>
          obtain ⟨rfl, hj⟩ := e
          cases h
          refine va_last hx hb hK hP hD hS q 1 (wld_at hq) (tysA_at (by decide)) (inB_in hj) hd (fun H1 locs1 h1 h2 h3 => ?_)
          rw [wld_set (cvL_set (inB_lt hj))] at h1 h2
          exact kk H1 locs1 h1 h2 h3 (by simp)
        · cases h
      · cases h
    · cases h
  | aastore =>
    obtain rfl := hn.resolve_left (by simp [ilen])
    simp only [stepE] at h
    split at h
    case h_1 v j q r =>
      split at h
      case h_1 k li ci fs hq hv =>
        split at h
        case isTrue e =>
          obtain ⟨hk, h8, h13, hj⟩ := e
          cases h
          refine va_astq hx hb hK hP hD hS q k v ci (wld_at hq) (by rw [tysA_at h8, hk]) (wld_at hv) (classes_at h13) (inB_in hj) hd (fun H1 locs1 h1 h2 h3 => ?_)
          rw [wld_set (cvQ_set (inB_lt hj))] at h1 h2
          exact kk H1 locs1 h1 h2 h3 (by simp)
        · cases h
      · cases h
    · cases h
  | invokestatic ix =>
    obtain rfl := hn.resolve_left (by simp [ilen])
    have hv : refOk o ix 4 0 0 w = true := hv
    simp only [stepE] at h
    split at h
    case h_1 n dp q1 sp q0 r =>
      split at h
      case h_1 k0 f k1 gg hq0 hq1 =>
        split at h
        case isTrue e =>
          obtain ⟨⟨rfl, hk⟩, ⟨g1, g2, g3⟩, ⟨g4, g5⟩, g6, g7⟩ := e
          cases h
          have hk8 : k0 < 8 := by omega
          have hrk : refKind (kty k0) = false := by rcases hk with rfl | rfl <;> rfl
          refine va_copyi (ty := kty k0) hx hb (hml.trans hl.1.symm) hown (hts _ (gd (ref_copy hv) rfl)) (hts _ (gd copyW_native rfl)) (hts _ (gd copyW_static rfl)) (hts _ (gd copyW_init rfl)) hK hP hD hS q0 q1 k0 k0 (wld_at hq0) (wld_at hq1) (tysA_at hk8) (tysA_at hk8) hrk (toNat_nonneg g1) (toNat_nonneg g2) (toNat_nonneg g3) g4 g5 (fun i hi => fits_at g6 (by omega)) hfr (by rw [sum_cat]; exact Nat.le_trans (Nat.add_le_add_right g7 _) (Nat.le_trans (by decide) hlo)) hd (fun H1 locs1 h1 h2 h3 => ?_)
          have he : (Sum.inl (dA k0, gg.length, .inl (va_cpy (fun j => f.getD j 0) (fun j => gg.getD j 0) sp.toNatClampNeg dp.toNatClampNeg n.toNatClampNeg)) : va_E) = cvC dA ρ (.inr (k0, .inl (cpyL f gg sp.toNatClampNeg dp.toNatClampNeg n.toNatClampNeg))) := by
            rw [cpy_get g4 g5]
            show _ = (Sum.inl (dA k0, (cpyL f gg sp.toNatClampNeg dp.toNatClampNeg n.toNatClampNeg).length, .inl _) : va_E)
            rw [cpy_len g4 g5]
          rw [wld_set he] at h1 h2
          exact kk H1 locs1 h1 h2 h3 (by simp)
        · cases h
      · cases h
    · cases h
  | _ => exact no h
theorem newOk_spec {σ : SH} {st : List Value} {lv : LV} (h : newOk σ st lv = true) : σ.length < sIdx ∧ σ.all (okC σ.length) = true ∧ st.all (okV σ.length) = true ∧ lv.all (fun q => okV σ.length q.2) = true := by
  simp only [newOk, okFr, Bool.and_eq_true, decide_eq_true_eq] at h
  exact h
theorem agr_new {n q : Nat} {ρ : Nat → Nat} (h : n < sIdx) : agr n ρ (fun j => if j = n then q else ρ j) := fun i hi => if_neg (by omega)
theorem wld_new {dA : Nat → ClassId} {ρ : Nat → Nat} {σ : SH} {q : Nat} {x : SC} {ev : va_E} (hs : σ.length < sIdx) (h : σ.all (okC σ.length) = true) (he : ev = cvC dA (fun j => if j = σ.length then q else ρ j) x) : wld dA ρ σ ++ [(q, ev)] = wld dA (fun j => if j = σ.length then q else ρ j) (σ ++ [x]) := by
  rw [wld_app, wld_agr (agr_new hs) h, if_pos rfl, he]
/-- an array's class is the one known -/
theorem arr_known {dC : Nat → ClassId} {dI : Nat → Nat → Nat} {dA : Nat → ClassId} {cA : ClassId} {k : Nat} {s : State} (hk : k < 8) (hK : va_K (dC, dI) classes (tysA dA) s) (hK2 : va_K (dC, dI) classes (tysA dA ++ [(cA, kty k)]) s) : cA = dA k := by
  have h1 := ra_find (hK.2 k _ (tysA_at hk)).2
  have h2 := ra_find (hK2.2 8 (cA, kty k) (by simp [tysA])).2
  exact Option.some.inj (h2.symm.trans h1)
set_option maxHeartbeats 4000000 in
theorem stepF_sound {kc ks : Nat} (X : xC p R s m args meth c cc o nL ini dC dI dA) (hd : decode cc pc = .ok (i, len)) (hv : valE o (i, len, 5, a, b, w) = true) (hn : ilen i = 0 ∨ len = ilen i) (h : stepF i a st lv σ = some (st', σ', kc, ks))
    (hl : lv_has ls nL (cvL ρ lv)) (hP : va_P (dC, dI) classes (wld dA ρ σ) H) (hD : va_D A (wld dA ρ σ)) (hS : va_S A H0 H locs) (hA : ∀ q, H0.size ≤ q → A q) (hc : cells + kc ≤ R.cells) (hs : slots + ks ≤ R.slots)
    (kk : ∀ (ρ' : Nat → Nat) (H1 : Heap), agr σ.length ρ ρ' → va_P (dC, dI) classes (wld dA ρ' σ') H1 → va_D A (wld dA ρ' σ') → va_S A H0 H1 locs → lv_has ls nL (cvL ρ' lv) → σ.length ≤ σ'.length → W p l e R s m args below meth c H1 locs (cells + kc) (slots + ks) Q (F0 m (pc + len) ls (st'.map (cv ρ')))) : W p l e R s m args below meth c H locs cells slots Q (F0 m pc ls (st.map (cv ρ))) := by
  obtain ⟨hx, hb, hml, hown, hts, hnk, hini, hK, hfr, hlo⟩ := X
  have no : ∀ {P : Prop}, (none : Option (List Value × SH × Nat × Nat)) = some (st', σ', kc, ks) → P := fun h => by cases h
  cases i with
  | new ix =>
    obtain rfl := hn.resolve_left (by simp [ilen])
    obtain ⟨hcl, ha⟩ := ref_cls hv
    simp only [stepF] at h
    split at h
    case isTrue e =>
      obtain ⟨hok, -⟩ := e
      obtain ⟨k1, k2, k3, k4⟩ := newOk_spec hok
      cases h
      refine va_new (ci := a) hx hb hts (cls_in ha) (clY a) (cls_ty ha) hown (hts _ (gd hcl rfl)) (hts _ (gd (cls_inst ha) rfl)) (hts _ (gd (init_in ha) rfl)) hK hP hD hS hA (classes_at ha) (blank_at a) hc hs hd (fun q H1 h1 h2 h3 => ?_)
      rw [wld_new (x := .inl (a, blankF a)) k1 k2 (by show _ = (Sum.inr (a, (blankF a).map (cv _)) : va_E); rw [blank_cv])] at h1 h2
      have k5 := kk _ H1 (agr_new k1) h1 h2 h3 (by rw [cvL_agr (agr_new k1) k4]; exact hl) (by simp)
      rw [List.map_cons, cvM_agr (agr_new k1) k3] at k5
      simp only [cv, if_pos] at k5
      exact k5
    · cases h
  | newarray ty =>
    obtain rfl := hn.resolve_left (by simp [ilen])
    simp only [valE, Bool.and_eq_true, decide_eq_true_eq] at hv
    simp only [stepF] at h
    split at h
    case h_1 n r =>
      split at h
      case isTrue e =>
        obtain ⟨hok, h0, hN⟩ := e
        obtain ⟨k1, k2, k3, k4⟩ := newOk_spec hok
        have k3' : r.all (okV σ.length) = true := (Bool.and_eq_true _ _ ▸ (List.all_cons ▸ k3)).2
        split at h
        · cases h
          refine va_newa hx hb (hts _ (gd (arrW_in hv.1.symm (by decide)) rfl)) hv.1.symm hK hP hD hS hA (a0 := ((List.replicate n.toNatClampNeg (0 : Int64)).length, .inr (.inl (fun j => (List.replicate n.toNatClampNeg (0 : Int64)).getD j 0)))) (fun cA => blank_l cA _) (toNat_nonneg h0) rfl (Nat.le_trans (Nat.mul_le_mul_right _ hN) (by decide)) hc hs hd (fun q cA H1 hK1 h1 h2 h3 => ?_)
          obtain rfl := arr_known (by decide) hK hK1
          rw [wld_new (x := .inr (1, .inr (.inl (List.replicate n.toNatClampNeg 0)))) (ev := .inl (dA 1, (List.replicate n.toNatClampNeg (0 : Int64)).length, .inr (.inl (fun j => (List.replicate n.toNatClampNeg (0 : Int64)).getD j 0)))) k1 k2 rfl] at h1 h2
          have k5 := kk _ H1 (agr_new k1) h1 h2 h3 (by rw [cvL_agr (agr_new k1) k4]; exact hl) (by simp)
          rw [List.map_cons, cvM_agr (agr_new k1) k3'] at k5
          simp only [cv, if_pos] at k5
          exact k5
        · cases h
          refine va_newa hx hb (hts _ (gd (arrW_in hv.1.symm (by decide)) rfl)) hv.1.symm hK hP hD hS hA (a0 := ((List.replicate n.toNatClampNeg (0 : Int32)).length, .inl (fun j => (List.replicate n.toNatClampNeg (0 : Int32)).getD j 0))) (fun cA => blank_i cA _) (toNat_nonneg h0) rfl (Nat.le_trans (Nat.mul_le_mul_right _ hN) (by decide)) hc hs hd (fun q cA H1 hK1 h1 h2 h3 => ?_)
          obtain rfl := arr_known (by decide) hK hK1
          rw [wld_new (x := .inr (0, .inl (List.replicate n.toNatClampNeg 0))) (ev := .inl (dA 0, (List.replicate n.toNatClampNeg (0 : Int32)).length, .inl (fun j => (List.replicate n.toNatClampNeg (0 : Int32)).getD j 0))) k1 k2 rfl] at h1 h2
          have k5 := kk _ H1 (agr_new k1) h1 h2 h3 (by rw [cvL_agr (agr_new k1) k4]; exact hl) (by simp)
          rw [List.map_cons, cvM_agr (agr_new k1) k3'] at k5
          simp only [cv, if_pos] at k5
          exact k5
        · cases h
          refine va_newa hx hb (hts _ (gd (arrW_in hv.1.symm (by decide)) rfl)) hv.1.symm hK hP hD hS hA (a0 := ((List.replicate n.toNatClampNeg (0 : Int32)).length, .inl (fun j => (List.replicate n.toNatClampNeg (0 : Int32)).getD j 0))) (fun cA => blank_i cA _) (toNat_nonneg h0) rfl (Nat.le_trans (Nat.mul_le_mul_right _ hN) (by decide)) hc hs hd (fun q cA H1 hK1 h1 h2 h3 => ?_)
          obtain rfl := arr_known (by decide) hK hK1
          rw [wld_new (x := .inr (2, .inl (List.replicate n.toNatClampNeg 0))) (ev := .inl (dA 2, (List.replicate n.toNatClampNeg (0 : Int32)).length, .inl (fun j => (List.replicate n.toNatClampNeg (0 : Int32)).getD j 0))) k1 k2 rfl] at h1 h2
          have k5 := kk _ H1 (agr_new k1) h1 h2 h3 (by rw [cvL_agr (agr_new k1) k4]; exact hl) (by simp)
          rw [List.map_cons, cvM_agr (agr_new k1) k3'] at k5
          simp only [cv, if_pos] at k5
          exact k5
        · cases h
          refine va_newa hx hb (hts _ (gd (arrW_in hv.1.symm (by decide)) rfl)) hv.1.symm hK hP hD hS hA (a0 := ((List.replicate n.toNatClampNeg (0 : Int32)).length, .inl (fun j => (List.replicate n.toNatClampNeg (0 : Int32)).getD j 0))) (fun cA => blank_i cA _) (toNat_nonneg h0) rfl (Nat.le_trans (Nat.mul_le_mul_right _ hN) (by decide)) hc hs hd (fun q cA H1 hK1 h1 h2 h3 => ?_)
          obtain rfl := arr_known (by decide) hK hK1
          rw [wld_new (x := .inr (3, .inl (List.replicate n.toNatClampNeg 0))) (ev := .inl (dA 3, (List.replicate n.toNatClampNeg (0 : Int32)).length, .inl (fun j => (List.replicate n.toNatClampNeg (0 : Int32)).getD j 0))) k1 k2 rfl] at h1 h2
          have k5 := kk _ H1 (agr_new k1) h1 h2 h3 (by rw [cvL_agr (agr_new k1) k4]; exact hl) (by simp)
          rw [List.map_cons, cvM_agr (agr_new k1) k3'] at k5
          simp only [cv, if_pos] at k5
          exact k5
        · cases h
      · cases h
    · cases h
  | anewarray ix =>
    obtain rfl := hn.resolve_left (by simp [ilen])
    obtain ⟨ci, hcl, hci, hky, h8, h4⟩ := anew_spec hv
    simp only [stepF] at h
    split at h
    case h_1 n r =>
      split at h
      case isTrue e =>
        obtain ⟨hok, h0, hN, -⟩ := e
        obtain ⟨k1, k2, k3, k4⟩ := newOk_spec hok
        have k3' : r.all (okV σ.length) = true := (Bool.and_eq_true _ _ ▸ (List.all_cons ▸ k3)).2
        cases h
        refine va_newq (C := ownN ci) hx hb hown (hts _ (gd hcl rfl)) (hnk.2 a _ h4 h8 hky) hK hP hD hS hA (toNat_nonneg h0) rfl (by omega) hc hs hd (fun q cA H1 hK1 h1 h2 h3 => ?_)
        rw [← hky] at hK1
        obtain rfl := arr_known h8 hK hK1
        rw [wld_new (x := .inr (a, .inr (.inr (List.replicate n.toNatClampNeg none)))) k1 k2 (by
          show _ = (Sum.inl (dA a, (List.replicate n.toNatClampNeg (none : Option Nat)).length, .inr (.inr (.inr (.inr _)))) : va_E)
          rw [List.length_replicate, nones])] at h1 h2
        have k5 := kk _ H1 (agr_new k1) h1 h2 h3 (by rw [cvL_agr (agr_new k1) k4]; exact hl) (by simp)
        rw [List.map_cons, cvM_agr (agr_new k1) k3'] at k5
        simp only [cv, if_pos] at k5
        exact k5
      · cases h
    · cases h
  | invokespecial ix =>
    obtain rfl := hn.resolve_left (by simp [ilen])
    have hv : refOk o ix 3 0 0 w = true := hv
    simp only [stepF] at h
    split at h
    case h_1 q r =>
      split at h
      case isTrue e =>
        cases h
        refine W.objInit hx hb hown (hts _ (gd (ref_obj hv) rfl)) (hts _ (gd objW_inst rfl)) (hts _ (gd objW_code rfl)) rfl (hl.1.trans hml.symm) rfl hd hfr (by
          rw [sum_cat]
          exact Nat.le_trans (Nat.add_le_add_right (show 2 * (F0 m pc ls (cv ρ (.ref q) :: st'.map (cv ρ))).monitorRoom + (st'.map fun v => v.category).sum ≤ 8 from by have e0 : (F0 m pc ls (cv ρ (.ref q) :: st'.map (cv ρ))).monitorRoom = 0 := rfl; rw [e0]; omega) 12) (Nat.le_trans (by decide) hlo)) ?_
        exact kk ρ H agr.rf hP hD hS hl (Nat.le_refl _)
      · cases h
    · cases h
  | _ => exact no h
end STEPS2
