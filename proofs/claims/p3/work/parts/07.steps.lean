/-! ===== one step of the shadow machine is one step of the machine ===== -/
theorem bi_inv {f : Int32 → Int32 → Int32} {st st' : List Value} (h : bi f st = some st') : ∃ x y r, st = .int y :: .int x :: r ∧ st' = .int (f x y) :: r := by
  unfold bi at h
  split at h
  · cases h; exact ⟨_, _, _, rfl, rfl⟩
  · cases h
theorem biN_inv {f : Int32 → Int32 → Int32} {st st' : List Value} (h : biN f st = some st') : ∃ x y r, st = .int y :: .int x :: r ∧ ¬ y = 0 ∧ st' = .int (f x y) :: r := by
  unfold biN at h
  split at h
  · split at h
    · cases h
    · cases h; exact ⟨_, _, _, rfl, by assumption, rfl⟩
  · cases h
theorem bl_inv {f : Int64 → Int64 → Int64} {st st' : List Value} (h : bl f st = some st') : ∃ x y r, st = .long y :: .long x :: r ∧ st' = .long (f x y) :: r := by
  unfold bl at h
  split at h
  · cases h; exact ⟨_, _, _, rfl, rfl⟩
  · cases h
theorem blN_inv {f : Int64 → Int64 → Int64} {st st' : List Value} (h : blN f st = some st') : ∃ x y r, st = .long y :: .long x :: r ∧ ¬ y = 0 ∧ st' = .long (f x y) :: r := by
  unfold blN at h
  split at h
  · split at h
    · cases h
    · cases h; exact ⟨_, _, _, rfl, by assumption, rfl⟩
  · cases h
theorem ui_inv {f : Int32 → Int32} {st st' : List Value} (h : ui f st = some st') : ∃ x r, st = .int x :: r ∧ st' = .int (f x) :: r := by
  unfold ui at h
  split at h
  · cases h; exact ⟨_, _, rfl, rfl⟩
  · cases h
theorem ldI_inv {lv : LV} {k : Nat} {st st' : List Value} (h : ldI lv k st = some st') : ∃ x, lvGet lv k = some (.int x) ∧ st' = .int x :: st := by
  unfold ldI at h
  split at h
  · cases h; exact ⟨_, by assumption, rfl⟩
  · cases h
theorem ldL_inv {lv : LV} {k : Nat} {st st' : List Value} (h : ldL lv k st = some st') : ∃ x, lvGet lv k = some (.long x) ∧ st' = .long x :: st := by
  unfold ldL at h
  split at h
  · cases h; exact ⟨_, by assumption, rfl⟩
  · cases h
theorem ldA_inv {lv : LV} {k : Nat} {st st' : List Value} (h : ldA lv k st = some st') : ∃ x, lvGet lv k = some (.ref x) ∧ st' = .ref x :: st := by
  unfold ldA at h
  split at h
  · cases h; exact ⟨_, by assumption, rfl⟩
  · cases h
theorem stI_inv {nL k : Nat} {lv lv' : LV} {st st' : List Value} (h : stI nL lv k st = some (st', lv')) : ∃ x, st = .int x :: st' ∧ k < nL ∧ lv' = lvSet1 lv k (.int x) := by
  unfold stI at h
  split at h
  · split at h
    · cases h; exact ⟨_, rfl, by assumption, rfl⟩
    · cases h
  · cases h
theorem stL_inv {nL k : Nat} {lv lv' : LV} {st st' : List Value} (h : stL nL lv k st = some (st', lv')) : ∃ x, st = .long x :: st' ∧ k + 1 < nL ∧ lv' = lvSet2 lv k (.long x) := by
  unfold stL at h
  split at h
  · split at h
    · cases h; exact ⟨_, rfl, by assumption, rfl⟩
    · cases h
  · cases h
theorem stA_inv {nL k : Nat} {lv lv' : LV} {st st' : List Value} (h : stA nL lv k st = some (st', lv')) : ∃ x, st = .ref x :: st' ∧ k < nL ∧ lv' = lvSet1 lv k (.ref x) := by
  unfold stA at h
  split at h
  · split at h
    · cases h; exact ⟨_, rfl, by assumption, rfl⟩
    · cases h
  · cases h
theorem jmp_inv {pc : Nat} {off : Int} {r st' : List Value} {pc' : Nat} (h : (jmp pc off).map (fun t => (t, r)) = some (pc', st')) : (pc : Int) + off = (pc' : Int) ∧ st' = r := by
  unfold jmp at h
  split at h
  · simp only [Option.map_some, Option.some.injEq, Prod.mk.injEq] at h
    exact ⟨by omega, h.2.symm⟩
  · cases h
theorem jIf_inv {b : Bool} {pc : Nat} {off : Int} {r st' : List Value} {pc' : Nat} (h : jIf b pc off r = some (pc', st')) : ∃ t : Nat, (pc : Int) + off = (t : Int) ∧ pc' = (if b = true then t else pc + 3) ∧ st' = r := by
  unfold jIf at h
  cases hj : jmp pc off with
  | none => rw [hj] at h; cases h
  | some t =>
    rw [hj] at h
    have h1 := (jmp_inv (r := r) (show (jmp pc off).map (fun t => (t, r)) = some (t, r) by rw [hj]; rfl)).1
    simp only [Option.some.injEq, Prod.mk.injEq] at h
    exact ⟨t, h1, h.1.symm, h.2.symm⟩
section STEPS
variable {p : Program} {l : Launch} {e : Env} {R : Room} {s : State} {m : MethodId} {args : Array Value} {below : List Frame} {meth : Method} {c : Code} {H : Heap} {locs : List Loc} {cells slots : Nat} {Q : State → Prop}
variable {cc : ByteArray} {pc : Nat} {ls : Array Slot} {dC : Nat → ClassId} {dI : Nat → Nat → Nat} {dA : Nat → ClassId} {ρ : Nat → Nat} {i : Instr} {len g a b w o nL : Nat} {st st' : List Value} {lv lv' : LV} {σ σ' : SH} {ini : Bool} {A : Nat → Prop} {H0 : Heap}
/-- what a method's walk stands on -/
def xC (p : Program) (R : Room) (s : State) (m : MethodId) (args : Array Value) (meth : Method) (c : Code) (cc : ByteArray) (o nL : Nat) (ini : Bool) (dC : Nat → ClassId) (dI : Nat → Nat → Nat) (dA : Nat → ClassId) : Prop :=
  p.tables.exec = Jvm.exec ∧ c.code = cc ∧ c.maxLocals = nL ∧ s.vm.findClass (ownN o) = some m.cls ∧ (∀ w ∈ lw_g, w.before args s = true) ∧ nK s ∧ (ini = true → meth.name = "<init>") ∧ va_K (dC, dI) classes (tysA dA) s ∧ 1 ≤ R.frames ∧ 100 ≤ R.locals
set_option maxHeartbeats 4000000 in
theorem stepA_sound (X : xC p R s m args meth c cc o nL ini dC dI dA) (hd : decode cc pc = .ok (i, len)) (hv : valE o (i, len, g, a, b, w) = true) (hn : ilen i = 0 ∨ len = ilen i) (h : stepA i a st lv = some st') (hl : lv_has ls nL (cvL ρ lv))
    (kk : W p l e R s m args below meth c H locs cells slots Q (F0 m (pc + len) ls (st'.map (cv ρ)))) : W p l e R s m args below meth c H locs cells slots Q (F0 m pc ls (st.map (cv ρ))) := by
  obtain ⟨hx, hb, -, hown, hts, -⟩ := X
  have no : ∀ {P : Prop}, (none : Option (List Value)) = some st' → P := fun h => by cases h
  cases i with
  | iconst n => obtain rfl := hn.resolve_left (by simp [ilen]); cases h; exact lv_iconst hx hb hd rfl kk
  | bipush n => obtain rfl := hn.resolve_left (by simp [ilen]); cases h; exact lv_bipush hx hb hd rfl kk
  | sipush n => obtain rfl := hn.resolve_left (by simp [ilen]); cases h; exact lv_sipush hx hb hd rfl kk
  | lconst n => obtain rfl := hn.resolve_left (by simp [ilen]); cases h; exact lv_lconst hx hb hd rfl kk
  | ldc ix => obtain rfl := hn.resolve_left (by simp [ilen]); cases h; exact lv_ldc hx hb hown (hts _ (gd (ref_int hv) rfl)) hd kk
  | ldc_w ix => obtain rfl := hn.resolve_left (by simp [ilen]); cases h; exact lv_ldcw hx hb hown (hts _ (gd (ref_int hv) rfl)) hd kk
  | ldc2_w ix => obtain rfl := hn.resolve_left (by simp [ilen]); cases h; exact lv_ldc2 hx hb hown (hts _ (gd (ref_long hv) rfl)) hd kk
  | iload k => obtain rfl := hn.resolve_left (by simp [ilen]); obtain ⟨x, h1, rfl⟩ := ldI_inv h; exact lv_iload hx hb hd (lv_cvAt hl h1) kk
  | iload_n k => obtain rfl := hn.resolve_left (by simp [ilen]); obtain ⟨x, h1, rfl⟩ := ldI_inv h; exact lv_iload_n hx hb hd rfl (lv_cvAt hl h1) kk
  | lload k => obtain rfl := hn.resolve_left (by simp [ilen]); obtain ⟨x, h1, rfl⟩ := ldL_inv h; exact lv_lload hx hb hd (lv_cvAt hl h1) kk
  | lload_n k => obtain rfl := hn.resolve_left (by simp [ilen]); obtain ⟨x, h1, rfl⟩ := ldL_inv h; exact lv_lload_n hx hb hd rfl (lv_cvAt hl h1) kk
  | aload k => obtain rfl := hn.resolve_left (by simp [ilen]); obtain ⟨x, h1, rfl⟩ := ldA_inv h; exact lv_aload hx hb hd (lv_cvAt hl h1) kk
  | aload_n k => obtain rfl := hn.resolve_left (by simp [ilen]); obtain ⟨x, h1, rfl⟩ := ldA_inv h; exact lv_aload_n hx hb hd rfl (lv_cvAt hl h1) kk
  | iadd => obtain rfl := hn.resolve_left (by simp [ilen]); obtain ⟨x, y, r, rfl, rfl⟩ := bi_inv h; exact lv_iadd hx hb hd kk
  | isub => obtain rfl := hn.resolve_left (by simp [ilen]); obtain ⟨x, y, r, rfl, rfl⟩ := bi_inv h; exact lv_isub hx hb hd kk
  | imul => obtain rfl := hn.resolve_left (by simp [ilen]); obtain ⟨x, y, r, rfl, rfl⟩ := bi_inv h; exact lv_imul hx hb hd kk
  | iand => obtain rfl := hn.resolve_left (by simp [ilen]); obtain ⟨x, y, r, rfl, rfl⟩ := bi_inv h; exact lv_iand hx hb hd kk
  | ior => obtain rfl := hn.resolve_left (by simp [ilen]); obtain ⟨x, y, r, rfl, rfl⟩ := bi_inv h; exact lv_ior hx hb hd kk
  | ixor => obtain rfl := hn.resolve_left (by simp [ilen]); obtain ⟨x, y, r, rfl, rfl⟩ := bi_inv h; exact lv_ixor hx hb hd kk
  | ishl => obtain rfl := hn.resolve_left (by simp [ilen]); obtain ⟨x, y, r, rfl, rfl⟩ := bi_inv h; exact lv_ishl hx hb hd kk
  | ishr => obtain rfl := hn.resolve_left (by simp [ilen]); obtain ⟨x, y, r, rfl, rfl⟩ := bi_inv h; exact lv_ishr hx hb hd kk
  | iushr => obtain rfl := hn.resolve_left (by simp [ilen]); obtain ⟨x, y, r, rfl, rfl⟩ := bi_inv h; exact lv_iushr hx hb hd rfl kk
  | idiv => obtain rfl := hn.resolve_left (by simp [ilen]); obtain ⟨x, y, r, rfl, h0, rfl⟩ := biN_inv h; exact lv_idiv hx hb hd h0 kk
  | irem => obtain rfl := hn.resolve_left (by simp [ilen]); obtain ⟨x, y, r, rfl, h0, rfl⟩ := biN_inv h; exact lv_irem hx hb hd h0 kk
  | ineg => obtain rfl := hn.resolve_left (by simp [ilen]); obtain ⟨x, r, rfl, rfl⟩ := ui_inv h; exact lv_ineg hx hb hd kk
  | i2c => obtain rfl := hn.resolve_left (by simp [ilen]); obtain ⟨x, r, rfl, rfl⟩ := ui_inv h; exact lv_i2c hx hb hd rfl kk
  | ladd => obtain rfl := hn.resolve_left (by simp [ilen]); obtain ⟨x, y, r, rfl, rfl⟩ := bl_inv h; exact lv_ladd hx hb hd kk
  | lsub => obtain rfl := hn.resolve_left (by simp [ilen]); obtain ⟨x, y, r, rfl, rfl⟩ := bl_inv h; exact lv_lsub hx hb hd kk
  | lmul => obtain rfl := hn.resolve_left (by simp [ilen]); obtain ⟨x, y, r, rfl, rfl⟩ := bl_inv h; exact lv_lmul hx hb hd kk
  | ldiv => obtain rfl := hn.resolve_left (by simp [ilen]); obtain ⟨x, y, r, rfl, h0, rfl⟩ := blN_inv h; exact lv_ldiv hx hb hd h0 kk
  | lneg =>
    obtain rfl := hn.resolve_left (by simp [ilen])
    simp only [stepA] at h
    split at h
    · cases h; exact lv_lneg hx hb hd kk
    · cases h
  | i2l =>
    obtain rfl := hn.resolve_left (by simp [ilen])
    simp only [stepA] at h
    split at h
    · cases h; exact lv_i2l hx hb hd rfl kk
    · cases h
  | l2i =>
    obtain rfl := hn.resolve_left (by simp [ilen])
    simp only [stepA] at h
    split at h
    · cases h; exact lv_l2i hx hb hd rfl kk
    · cases h
  | lcmp =>
    obtain rfl := hn.resolve_left (by simp [ilen])
    simp only [stepA] at h
    split at h
    · cases h; exact W.lcmp hx hb hd kk
    · cases h
  | dup =>
    obtain rfl := hn.resolve_left (by simp [ilen])
    simp only [stepA] at h
    split at h
    · split at h
      · cases h; exact lv_dup hx hb hd ((cv_cat ρ _).trans (by assumption)) kk
      · cases h
    · cases h
  | dup2 =>
    obtain rfl := hn.resolve_left (by simp [ilen])
    simp only [stepA] at h
    split at h
    · split at h
      case isTrue q => cases h; exact lv_dup2_11 hx hb hd ((cv_cat ρ _).trans q.1) ((cv_cat ρ _).trans q.2) kk
      · cases h
    · cases h
  | _ => exact no h
set_option maxHeartbeats 4000000 in
theorem stepB_sound (X : xC p R s m args meth c cc o nL ini dC dI dA) (hd : decode cc pc = .ok (i, len)) (hn : ilen i = 0 ∨ len = ilen i) (h : stepB i nL st lv = some (st', lv')) (hl : lv_has ls nL (cvL ρ lv))
    (kk : ∀ ls' : Array Slot, lv_has ls' nL (cvL ρ lv') → W p l e R s m args below meth c H locs cells slots Q (F0 m (pc + len) ls' (st'.map (cv ρ)))) : W p l e R s m args below meth c H locs cells slots Q (F0 m pc ls (st.map (cv ρ))) := by
  obtain ⟨hx, hb, -⟩ := X
  have no : ∀ {P : Prop}, (none : Option (List Value × LV)) = some (st', lv') → P := fun h => by cases h
  cases i with
  | istore k => obtain rfl := hn.resolve_left (by simp [ilen]); obtain ⟨x, rfl, hk, rfl⟩ := stI_inv h; exact lv_istore hx hb hd hl hk (lvSet1_cv ρ lv k (.int x)) kk
  | istore_n k => obtain rfl := hn.resolve_left (by simp [ilen]); obtain ⟨x, rfl, hk, rfl⟩ := stI_inv h; exact lv_istore_n hx hb hd rfl hl hk (lvSet1_cv ρ lv k (.int x)) kk
  | lstore k => obtain rfl := hn.resolve_left (by simp [ilen]); obtain ⟨x, rfl, hk, rfl⟩ := stL_inv h; exact lv_lstore hx hb hd hl hk (lvSet2_cv ρ lv k (.long x)) kk
  | lstore_n k => obtain rfl := hn.resolve_left (by simp [ilen]); obtain ⟨x, rfl, hk, rfl⟩ := stL_inv h; exact lv_lstore_n hx hb hd rfl hl hk (lvSet2_cv ρ lv k (.long x)) kk
  | astore k => obtain rfl := hn.resolve_left (by simp [ilen]); obtain ⟨x, rfl, hk, rfl⟩ := stA_inv h; exact lv_astore hx hb hd hl hk (lvSet1_cv ρ lv k (.ref x)) kk
  | astore_n k => obtain rfl := hn.resolve_left (by simp [ilen]); obtain ⟨x, rfl, hk, rfl⟩ := stA_inv h; exact lv_astore_n hx hb hd rfl hl hk (lvSet1_cv ρ lv k (.ref x)) kk
  | iinc k n =>
    obtain rfl := hn.resolve_left (by simp [ilen])
    simp only [stepB] at h
    split at h
    case h_1 x hg =>
      split at h
      case isTrue hk =>
        cases h
        obtain ⟨j, hj⟩ := List.getElem?_of_mem (List.mem_map.mpr ⟨(k, .int x), lvGet_mem hg, rfl⟩ : (k, cv ρ (.int x)) ∈ cvL ρ lv)
        exact lv_iinc hx hb hd hl hj rfl hk (lvSet1_cv ρ lv k (.int (x + Int32.ofInt n))) kk
      · cases h
    · cases h
  | pop =>
    obtain rfl := hn.resolve_left (by simp [ilen])
    simp only [stepB] at h
    split at h
    · split at h
      · cases h; exact lv_pop hx hb hd ((cv_cat ρ _).trans (by assumption)) (kk _ hl)
      · cases h
    · cases h
  | pop2 =>
    obtain rfl := hn.resolve_left (by simp [ilen])
    simp only [stepB] at h
    split at h
    · split at h
      · cases h; exact lv_pop2_2 hx hb hd ((cv_cat ρ _).trans (by assumption)) (kk _ hl)
      · cases h
    · cases h
  | _ => exact no h
set_option maxHeartbeats 4000000 in
theorem stepC_sound {pc' : Nat} (X : xC p R s m args meth c cc o nL ini dC dI dA) (hd : decode cc pc = .ok (i, len)) (hn : ilen i = 0 ∨ len = ilen i) (h : stepC i pc st = some (pc', st'))
    (kk : W p l e R s m args below meth c H locs cells slots Q (F0 m pc' ls (st'.map (cv ρ)))) : W p l e R s m args below meth c H locs cells slots Q (F0 m pc ls (st.map (cv ρ))) := by
  obtain ⟨hx, hb, -⟩ := X
  have no : ∀ {P : Prop}, (none : Option (Nat × List Value)) = some (pc', st') → P := fun h => by cases h
  cases i with
  | goto off => obtain rfl := hn.resolve_left (by simp [ilen]); obtain ⟨ht, rfl⟩ := jmp_inv h; exact lv_goto hx hb hd ht kk
  | ifCond cd off =>
    obtain rfl := hn.resolve_left (by simp [ilen])
    simp only [stepC] at h
    split at h
    case h_1 x r =>
      obtain ⟨t, ht, rfl, rfl⟩ := jIf_inv h
      cases cd with
      | eq => exact lv_if_eq hx hb hd ht (fun q => by rw [show cnd .eq x 0 = true from decide_eq_true q] at kk; exact kk) (fun q => by rw [show cnd .eq x 0 = false from decide_eq_false q] at kk; exact kk)
      | ne => exact lv_if_ne hx hb hd ht (fun q => by rw [show cnd .ne x 0 = true from decide_eq_true q] at kk; exact kk) (fun q => by rw [show cnd .ne x 0 = false from decide_eq_false (fun z => z q)] at kk; exact kk)
      | lt => exact lv_if_lt hx hb hd ht (fun q => by rw [show cnd .lt x 0 = true from decide_eq_true q] at kk; exact kk) (fun q => by rw [show cnd .lt x 0 = false from decide_eq_false q] at kk; exact kk)
      | ge => exact lv_if_ge hx hb hd ht (fun q => by rw [show cnd .ge x 0 = true from decide_eq_true q] at kk; exact kk) (fun q => by rw [show cnd .ge x 0 = false from decide_eq_false q] at kk; exact kk)
      | gt => exact lv_if_gt hx hb hd ht (fun q => by rw [show cnd .gt x 0 = true from decide_eq_true q] at kk; exact kk) (fun q => by rw [show cnd .gt x 0 = false from decide_eq_false q] at kk; exact kk)
      | le => exact lv_if_le hx hb hd ht (fun q => by rw [show cnd .le x 0 = true from decide_eq_true q] at kk; exact kk) (fun q => by rw [show cnd .le x 0 = false from decide_eq_false q] at kk; exact kk)
    · cases h
  | if_icmp cd off =>
    obtain rfl := hn.resolve_left (by simp [ilen])
    simp only [stepC] at h
    split at h
    case h_1 y x r =>
      obtain ⟨t, ht, rfl, rfl⟩ := jIf_inv h
      cases cd with
      | eq => exact lv_icmp_eq hx hb hd ht (fun q => by rw [show cnd .eq x y = true from decide_eq_true q] at kk; exact kk) (fun q => by rw [show cnd .eq x y = false from decide_eq_false q] at kk; exact kk)
      | ne => exact lv_icmp_ne hx hb hd ht (fun q => by rw [show cnd .ne x y = true from decide_eq_true q] at kk; exact kk) (fun q => by rw [show cnd .ne x y = false from decide_eq_false (fun z => z q)] at kk; exact kk)
      | lt => exact lv_icmp_lt hx hb hd ht (fun q => by rw [show cnd .lt x y = true from decide_eq_true q] at kk; exact kk) (fun q => by rw [show cnd .lt x y = false from decide_eq_false q] at kk; exact kk)
      | ge => exact lv_icmp_ge hx hb hd ht (fun q => by rw [show cnd .ge x y = true from decide_eq_true q] at kk; exact kk) (fun q => by rw [show cnd .ge x y = false from decide_eq_false q] at kk; exact kk)
      | gt => exact lv_icmp_gt hx hb hd ht (fun q => by rw [show cnd .gt x y = true from decide_eq_true q] at kk; exact kk) (fun q => by rw [show cnd .gt x y = false from decide_eq_false q] at kk; exact kk)
      | le => exact lv_icmp_le hx hb hd ht (fun q => by rw [show cnd .le x y = true from decide_eq_true q] at kk; exact kk) (fun q => by rw [show cnd .le x y = false from decide_eq_false q] at kk; exact kk)
    · cases h
  | ifnull off =>
    obtain rfl := hn.resolve_left (by simp [ilen])
    simp only [stepC] at h
    split at h
    · cases h; exact lv_ifnull hx hb hd kk
    · obtain ⟨ht, rfl⟩ := jmp_inv h; exact lv_ifnullN hx hb hd ht kk
    · cases h
  | ifnonnull off =>
    obtain rfl := hn.resolve_left (by simp [ilen])
    simp only [stepC] at h
    split at h
    · obtain ⟨ht, rfl⟩ := jmp_inv h; exact lv_ifnonnull hx hb hd ht kk
    · cases h; exact lv_ifnonnullN hx hb hd kk
    · cases h
  | tableswitch d lo hi offs =>
    simp only [stepC] at h
    split at h
    case h_1 x r =>
      split at h
      case isTrue q => obtain ⟨ht, rfl⟩ := jmp_inv h; exact lv_tableOut hx hb hd q ht kk
      case isFalse q =>
        split at h
        case h_1 off ho => obtain ⟨ht, rfl⟩ := jmp_inv h; exact lv_tableIn hx hb hd (fun z => q (Or.inl z)) (fun z => q (Or.inr z)) ho ht kk
        · cases h
    · cases h
  | lookupswitch d ps =>
    simp only [stepC] at h
    split at h
    case h_1 x r =>
      split at h
      case isTrue q => obtain ⟨ht, rfl⟩ := jmp_inv h; exact lv_lookup hx hb hd q rfl ht kk
      · cases h
    · cases h
  | _ => exact no h
theorem aI_inv {κ : Nat} (h : aI κ st σ = some st') : ∃ j q r li, st = .int j :: .ref q :: r ∧ σ[q]? = some (.inr (κ, .inl li)) ∧ inB j li.length = true ∧ st' = .int (li.getD j.toNatClampNeg 0) :: r := by
  unfold aI at h
  split at h
  · split at h
    · split at h
      case isTrue q => cases h; obtain ⟨rfl, q⟩ := q; exact ⟨_, _, _, _, rfl, by assumption, q, rfl⟩
      · cases h
    · cases h
  · cases h
set_option maxHeartbeats 4000000 in
theorem stepD_sound {scr : Option (List Int32)} (X : xC p R s m args meth c cc o nL ini dC dI dA) (hd : decode cc pc = .ok (i, len)) (hv : valE o (i, len, g, a, b, w) = true) (hn : ilen i = 0 ∨ len = ilen i) (h : stepD scr i a b st σ = some st')
    (hscr : ∀ xs, scr = some xs → va_X (ρ sIdx) xs.length (fun j => xs.getD j 0) s H0 ∧ ρ sIdx < H0.size ∧ ¬ A (ρ sIdx)) (hP : va_P (dC, dI) classes (wld dA ρ σ) H) (hS : va_S A H0 H locs)
    (kk : W p l e R s m args below meth c H locs cells slots Q (F0 m (pc + len) ls (st'.map (cv ρ)))) : W p l e R s m args below meth c H locs cells slots Q (F0 m pc ls (st.map (cv ρ))) := by
  obtain ⟨hx, hb, -, hown, hts, -, -, hK, -⟩ := X
  have no : ∀ {P : Prop}, (none : Option (List Value)) = some st' → P := fun h => by cases h
  cases i with
  | getfield ix =>
    obtain rfl := hn.resolve_left (by simp [ilen])
    obtain ⟨hf, hbN, hdc, ha⟩ := ref_field hv
    simp only [stepD] at h
    split at h
    case h_1 q r =>
      split at h
      case h_1 ci fs hq =>
        split at h
        case isTrue e =>
          subst e
          cases hv' : fs[b]? with
          | none => rw [hv'] at h; cases h
          | some v =>
            rw [hv'] at h
            cases h
            exact va_get (T := clT ci) hx hb hts (cls_in ha) hown hK hP q (wld_at hq) (classes_at ha) b hbN (hts _ (gd hf rfl)) (by rw [hdc]; exact fun x hx => hx) (v := cv ρ v) (by rw [List.getElem?_map, hv']; rfl) hd kk
        · cases h
      · cases h
    · cases h
  | iaload =>
    obtain rfl := hn.resolve_left (by simp [ilen])
    simp only [stepD] at h
    split at h
    · obtain ⟨j, q, r, li, rfl, hq, hj, rfl⟩ := aI_inv h
      exact va_iald hx hb hK hP q 0 (wld_at hq) (tysA_at (by decide)) (inB_in hj) hd kk
    case h_2 xs =>
      split at h
      case h_1 j q r =>
        split at h
        case isTrue e =>
          subst e
          split at h
          case isTrue hj =>
            cases h
            obtain ⟨hX, h1, h2⟩ := hscr xs rfl
            exact va_sld hx hb hX h1 h2 hS (inB_in hj) hd kk
          · cases h
        · cases h
      · cases h
  | caload => obtain rfl := hn.resolve_left (by simp [ilen]); obtain ⟨j, q, r, li, rfl, hq, hj, rfl⟩ := aI_inv h; exact va_cald hx hb hK hP q 2 (wld_at hq) (tysA_at (by decide)) (inB_in hj) hd kk
  | baload => obtain rfl := hn.resolve_left (by simp [ilen]); obtain ⟨j, q, r, li, rfl, hq, hj, rfl⟩ := aI_inv h; exact va_zald hx hb hK hP q 3 (wld_at hq) (tysA_at (by decide)) (inB_in hj) hd kk
  | laload =>
    obtain rfl := hn.resolve_left (by simp [ilen])
    simp only [stepD] at h
    split at h
    case h_1 j q r =>
      split at h
      case h_1 k li hq =>
        split at h
        case isTrue e =>
          obtain ⟨rfl, hj⟩ := e
          cases h
          exact va_lald hx hb hK hP q 1 (wld_at hq) (tysA_at (by decide)) (inB_in hj) hd kk
        · cases h
      · cases h
    · cases h
  | aaload =>
    obtain rfl := hn.resolve_left (by simp [ilen])
    simp only [stepD] at h
    split at h
    case h_1 j q r =>
      split at h
      case h_1 k li hq =>
        split at h
        case isTrue e =>
          obtain ⟨h4, h8, hj⟩ := e
          cases h
          have hk : ∃ C, kty k = .object C := by
            rcases (show k = 4 ∨ k = 5 ∨ k = 6 ∨ k = 7 by omega) with rfl | rfl | rfl | rfl <;> exact ⟨_, rfl⟩
          obtain ⟨C, hC⟩ := hk
          have e1 : cv ρ (va_rf (li.getD j.toNatClampNeg none)) = va_rf ((li.getD j.toNatClampNeg none).map ρ) := by cases li.getD j.toNatClampNeg none <;> rfl
          refine va_aldq (C := C) hx hb hK hP q k (wld_at hq) (by rw [tysA_at h8, hC]) (inB_in hj) hd ?_
          rw [List.map_cons, e1] at kk
          exact kk
        · cases h
      · cases h
    · cases h
  | arraylength =>
    obtain rfl := hn.resolve_left (by simp [ilen])
    simp only [stepD] at h
    split at h
    · split at h
      case h_1 q r =>
        split at h
        case h_1 k li hq =>
          split at h
          case isTrue e => cases h; exact va_alen hx hb hK hP q k (wld_at hq) (tysA_at e) rfl hd kk
          · cases h
        case h_2 k li hq =>
          split at h
          case isTrue e => cases h; exact va_alen hx hb hK hP q k (wld_at hq) (tysA_at e) rfl hd kk
          · cases h
        · cases h
      · cases h
    case h_2 xs =>
      split at h
      case h_1 q r =>
        split at h
        case isTrue e =>
          subst e
          cases h
          obtain ⟨hX, h1, h2⟩ := hscr xs rfl
          exact va_slen hx hb hX h1 h2 hS hd kk
        · cases h
      · cases h
  | _ => exact no h
end STEPS
