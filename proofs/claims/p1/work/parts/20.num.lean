/-! ===== abstract numbers: a constant and multiples of symbols; what is known of the symbols ===== -/
abbrev Ln : Type := Int × List (Nat × Int)
def leI (a b : Int) : Bool := match a, b with
  | .ofNat m, .ofNat n => Nat.ble m n
  | .negSucc _, .ofNat _ => true
  | .ofNat _, .negSucc _ => false
  | .negSucc m, .negSucc n => Nat.ble n m
theorem leI_iff {a b : Int} : leI a b = true ↔ a ≤ b := by
  cases a with
  | ofNat m =>
    cases b with
    | ofNat n =>
      have e : leI (Int.ofNat m) (Int.ofNat n) = Nat.ble m n := rfl
      rw [e, Nat.ble_eq, Int.ofNat_eq_natCast, Int.ofNat_eq_natCast]
      omega
    | negSucc n =>
      have e : leI (Int.ofNat m) (Int.negSucc n) = false := rfl
      rw [e, Int.ofNat_eq_natCast, Int.negSucc_eq]
      exact ⟨fun h => (by cases h), fun h => (by omega)⟩
  | negSucc m =>
    cases b with
    | ofNat n =>
      have e : leI (Int.negSucc m) (Int.ofNat n) = true := rfl
      rw [e, Int.ofNat_eq_natCast, Int.negSucc_eq]
      exact ⟨fun h => (by omega), fun h => rfl⟩
    | negSucc n =>
      have e : leI (Int.negSucc m) (Int.negSucc n) = Nat.ble n m := rfl
      rw [e, Nat.ble_eq, Int.negSucc_eq, Int.negSucc_eq]
      omega
theorem leI_le {a b : Int} (h : leI a b = true) : a ≤ b := leI_iff.mp h
def isZ (a : Int) : Bool := match a with
  | .ofNat 0 => true
  | _ => false
theorem isZ_eq {a : Int} (h : isZ a = true) : a = 0 := by
  unfold isZ at h
  split at h
  · rfl
  · cases h
def eqI (a b : Int) : Bool := match a, b with
  | .ofNat m, .ofNat n => Nat.beq m n
  | .negSucc m, .negSucc n => Nat.beq m n
  | _, _ => false
theorem eqI_eq {a b : Int} (h : eqI a b = true) : a = b := by
  unfold eqI at h
  split at h
  · rw [Nat.eq_of_beq_eq_true h]
  · rw [Nat.eq_of_beq_eq_true h]
  · cases h
def evT (ρ : Nat → Int) : List (Nat × Int) → Int
  | [] => 0
  | (s, k) :: r => k * ρ s + evT ρ r
def ev (ρ : Nat → Int) (e : Ln) : Int := e.1 + evT ρ e.2
def insT (s : Nat) (k : Int) : List (Nat × Int) → List (Nat × Int)
  | [] => [(s, k)]
  | (t, m) :: r => bif Nat.beq s t then (bif isZ (Int.add k m) then r else (t, Int.add k m) :: r) else bif Nat.ble s t then (s, k) :: (t, m) :: r else (t, m) :: insT s k r
theorem evT_ins (ρ : Nat → Int) (s : Nat) (k : Int) (l : List (Nat × Int)) : evT ρ (insT s k l) = k * ρ s + evT ρ l := by
  induction l with
  | nil => rfl
  | cons q r ih =>
    obtain ⟨t, m⟩ := q
    show evT ρ (bif Nat.beq s t then (bif isZ (Int.add k m) then r else (t, Int.add k m) :: r) else bif Nat.ble s t then (s, k) :: (t, m) :: r else (t, m) :: insT s k r) = k * ρ s + (m * ρ t + evT ρ r)
    cases h1 : Nat.beq s t with
    | true =>
      have := Nat.eq_of_beq_eq_true h1
      subst this
      cases h2 : isZ (Int.add k m) with
      | true =>
        have h3 : k + m = 0 := isZ_eq h2
        have h4 : k * ρ s + m * ρ s = 0 := by rw [← Int.add_mul, h3, Int.zero_mul]
        show evT ρ r = _
        omega
      | false =>
        show (k + m) * ρ s + evT ρ r = _
        rw [Int.add_mul]
        omega
    | false =>
      cases h2 : Nat.ble s t with
      | true => rfl
      | false =>
        show m * ρ t + evT ρ (insT s k r) = _
        rw [ih]
        omega
def addT (a : List (Nat × Int)) : List (Nat × Int) → List (Nat × Int)
  | [] => a
  | (s, k) :: r => insT s k (addT a r)
theorem evT_add (ρ : Nat → Int) (a b : List (Nat × Int)) : evT ρ (addT a b) = evT ρ a + evT ρ b := by
  induction b with
  | nil => show evT ρ a = evT ρ a + 0; omega
  | cons q r ih =>
    obtain ⟨s, k⟩ := q
    show evT ρ (insT s k (addT a r)) = evT ρ a + (k * ρ s + evT ρ r)
    rw [evT_ins, ih]
    omega
def sclT (k : Int) : List (Nat × Int) → List (Nat × Int)
  | [] => []
  | (s, m) :: r => (s, Int.mul k m) :: sclT k r
theorem evT_scl (ρ : Nat → Int) (k : Int) (a : List (Nat × Int)) : evT ρ (sclT k a) = k * evT ρ a := by
  induction a with
  | nil => show (0 : Int) = k * 0; omega
  | cons q r ih =>
    obtain ⟨s, m⟩ := q
    show (k * m) * ρ s + evT ρ (sclT k r) = k * (m * ρ s + evT ρ r)
    rw [ih, Int.mul_add, Int.mul_assoc]
def kL (c : Int) : Ln := (c, [])
def sL (s : Nat) : Ln := (0, [(s, 1)])
def addL (a b : Ln) : Ln := (Int.add a.1 b.1, addT a.2 b.2)
def sclL (k : Int) (a : Ln) : Ln := bif isZ k then (0, []) else (Int.mul k a.1, sclT k a.2)
def subL (a b : Ln) : Ln := addL a (sclL (.negSucc 0) b)
def pluL (a : Ln) (c : Int) : Ln := (Int.add a.1 c, a.2)
theorem ev_k (ρ : Nat → Int) (c : Int) : ev ρ (kL c) = c := by show c + 0 = c; omega
theorem ev_s (ρ : Nat → Int) (s : Nat) : ev ρ (sL s) = ρ s := by show 0 + (1 * ρ s + 0) = ρ s; omega
theorem ev_add (ρ : Nat → Int) (a b : Ln) : ev ρ (addL a b) = ev ρ a + ev ρ b := by
  show (a.1 + b.1) + evT ρ (addT a.2 b.2) = (a.1 + evT ρ a.2) + (b.1 + evT ρ b.2)
  rw [evT_add]
  omega
theorem ev_scl (ρ : Nat → Int) (k : Int) (a : Ln) : ev ρ (sclL k a) = k * ev ρ a := by
  unfold sclL
  cases h : isZ k with
  | true => rw [isZ_eq h, Int.zero_mul]; rfl
  | false =>
    show k * a.1 + evT ρ (sclT k a.2) = k * (a.1 + evT ρ a.2)
    rw [evT_scl, Int.mul_add]
theorem ev_sub (ρ : Nat → Int) (a b : Ln) : ev ρ (subL a b) = ev ρ a - ev ρ b := by
  unfold subL
  rw [ev_add, ev_scl]
  show ev ρ a + (-1) * ev ρ b = _
  omega
theorem ev_plu (ρ : Nat → Int) (a : Ln) (c : Int) : ev ρ (pluL a c) = ev ρ a + c := by
  show (a.1 + c) + evT ρ a.2 = (a.1 + evT ρ a.2) + c
  omega
-- what is known
abbrev Tb : Type := List (Nat × Int × Int)
def tbLk (s : Nat) : Tb → Option (Int × Int)
  | [] => none
  | (t, b) :: r => bif Nat.beq s t then some b else tbLk s r
def tOk (ρ : Nat → Int) (tab : Tb) : Prop := ∀ q ∈ tab, q.2.1 ≤ ρ q.1 ∧ ρ q.1 ≤ q.2.2
def fOk (ρ : Nat → Int) (fs : List Ln) : Prop := ∀ f ∈ fs, ev ρ f ≤ 0
theorem tbLk_ok {ρ : Nat → Int} {tab : Tb} (h : tOk ρ tab) {s : Nat} {b : Int × Int} (hl : tbLk s tab = some b) : b.1 ≤ ρ s ∧ ρ s ≤ b.2 := by
  induction tab with
  | nil => cases hl
  | cons q r ih =>
    obtain ⟨t, c⟩ := q
    unfold tbLk at hl
    cases h1 : Nat.beq s t with
    | true =>
      rw [h1] at hl
      cases hl
      have := Nat.eq_of_beq_eq_true h1
      subst this
      exact h _ List.mem_cons_self
    | false =>
      rw [h1] at hl
      exact ih (fun q hq => h q (List.mem_cons_of_mem _ hq)) hl
def ubT (tab : Tb) : List (Nat × Int) → Int → Option Int
  | [], acc => some acc
  | (s, k) :: r, acc => match tbLk s tab with
    | some (lo, hi) => ubT tab r (Int.add acc (Int.mul k (bif leI 0 k then hi else lo)))
    | none => none
def ub (tab : Tb) (e : Ln) : Option Int := ubT tab e.2 e.1
theorem mul_le_hi {k x lo hi : Int} (h : lo ≤ x ∧ x ≤ hi) : k * x ≤ k * (bif leI 0 k then hi else lo) := by
  cases h1 : leI 0 k with
  | true => exact Int.mul_le_mul_of_nonneg_left h.2 (leI_le h1)
  | false =>
    have h2 : ¬ (0 ≤ k) := fun q => by rw [leI_iff.mpr q] at h1; cases h1
    have h3 : k * x ≤ k * lo := Int.mul_le_mul_of_nonpos_left (by omega) h.1
    exact h3
theorem ubT_ok {ρ : Nat → Int} {tab : Tb} (h : tOk ρ tab) {l : List (Nat × Int)} {acc b : Int} (hb : ubT tab l acc = some b) : acc + evT ρ l ≤ b := by
  induction l generalizing acc with
  | nil =>
    cases hb
    show b + 0 ≤ b
    omega
  | cons q r ih =>
    obtain ⟨s, k⟩ := q
    unfold ubT at hb
    cases h1 : tbLk s tab with
    | none => rw [h1] at hb; cases hb
    | some c =>
      obtain ⟨lo, hi⟩ := c
      rw [h1] at hb
      have h2 := ih hb
      have h3 : k * ρ s ≤ k * (bif leI 0 k then hi else lo) := mul_le_hi (tbLk_ok h h1)
      show acc + (k * ρ s + evT ρ r) ≤ b
      simp only [Int.add_def, Int.mul_def] at h2
      omega
theorem ub_ok {ρ : Nat → Int} {tab : Tb} (h : tOk ρ tab) {e : Ln} {b : Int} (hb : ub tab e = some b) : ev ρ e ≤ b := ubT_ok h hb
def lb (tab : Tb) (e : Ln) : Option Int := match ub tab (sclL (.negSucc 0) e) with
  | some b => some (Int.neg b)
  | none => none
theorem lb_ok {ρ : Nat → Int} {tab : Tb} (h : tOk ρ tab) {e : Ln} {b : Int} (hb : lb tab e = some b) : b ≤ ev ρ e := by
  unfold lb at hb
  cases h1 : ub tab (sclL (.negSucc 0) e) with
  | none => rw [h1] at hb; cases hb
  | some c =>
    rw [h1] at hb
    cases hb
    have h2 := ub_ok h h1
    rw [ev_scl] at h2
    have h3 : (Int.negSucc 0) * ev ρ e = - ev ρ e := by show (-1) * ev ρ e = _; omega
    show - c ≤ ev ρ e
    omega
def ub0 (tab : Tb) (e : Ln) : Bool := match ub tab e with
  | some b => leI b 0
  | none => false
theorem ub0_ok {ρ : Nat → Int} {tab : Tb} (h : tOk ρ tab) {e : Ln} (hb : ub0 tab e = true) : ev ρ e ≤ 0 := by
  unfold ub0 at hb
  cases h1 : ub tab e with
  | none => rw [h1] at hb; cases hb
  | some c =>
    rw [h1] at hb
    exact Int.le_trans (ub_ok h h1) (leI_le hb)
def anyF (tab : Tb) (e : Ln) : List Ln → Bool
  | [] => false
  | f :: r => bif ub0 tab (subL e f) then true else anyF tab e r
/-- 'e ≤ 0', by the bounds, or by them and one of the facts -/
def le0 (tab : Tb) (fs : List Ln) (e : Ln) : Bool := bif ub0 tab e then true else anyF tab e fs
theorem anyF_ok {ρ : Nat → Int} {tab : Tb} (h : tOk ρ tab) {e : Ln} {fs : List Ln} (hf : fOk ρ fs) (hb : anyF tab e fs = true) : ev ρ e ≤ 0 := by
  induction fs with
  | nil => cases hb
  | cons f r ih =>
    unfold anyF at hb
    cases h1 : ub0 tab (subL e f) with
    | true =>
      have h2 := ub0_ok h h1
      rw [ev_sub] at h2
      have h3 := hf f List.mem_cons_self
      omega
    | false =>
      rw [h1] at hb
      exact ih (fun q hq => hf q (List.mem_cons_of_mem _ hq)) hb
theorem le0_ok {ρ : Nat → Int} {tab : Tb} (h : tOk ρ tab) {e : Ln} {fs : List Ln} (hf : fOk ρ fs) (hb : le0 tab fs e = true) : ev ρ e ≤ 0 := by
  unfold le0 at hb
  cases h1 : ub0 tab e with
  | true => exact ub0_ok h h1
  | false => rw [h1] at hb; exact anyF_ok h hf hb
theorem tOk_cons {ρ : Nat → Int} {tab : Tb} (h : tOk ρ tab) {s : Nat} {lo hi : Int} (h1 : lo ≤ ρ s) (h2 : ρ s ≤ hi) : tOk ρ ((s, lo, hi) :: tab) := fun q hq => by
  rcases List.mem_cons.mp hq with rfl | hq
  · exact ⟨h1, h2⟩
  · exact h q hq
/-- bounds of the symbols of e, out of 'e ≤ 0' -/
def propT (e : Ln) : List (Nat × Int) → Tb → Tb
  | [], tab => tab
  | (s, k) :: r, tab => match tbLk s tab with
    | some (lo, hi) => bif eqI k 1 then (match lb tab (subL e (sL s)) with
      | some m => bif leI hi (Int.neg m) then propT e r tab else propT e r ((s, lo, Int.neg m) :: tab)
      | none => propT e r tab) else bif eqI k (.negSucc 0) then (match lb tab (addL e (sL s)) with
      | some m => bif leI m lo then propT e r tab else propT e r ((s, m, hi) :: tab)
      | none => propT e r tab) else propT e r tab
    | none => propT e r tab
theorem propT_ok {ρ : Nat → Int} {e : Ln} (he : ev ρ e ≤ 0) : ∀ (l : List (Nat × Int)) (tab : Tb), tOk ρ tab → tOk ρ (propT e l tab) := by
  intro l
  induction l with
  | nil => intro tab h; exact h
  | cons q r ih =>
    obtain ⟨s, k⟩ := q
    intro tab h
    unfold propT
    split
    · rename_i lo hi hs
      have h3 := tbLk_ok h hs
      dsimp only at h3
      cases h5 : eqI k 1 with
      | true =>
        rw [cond_true]
        split
        · rename_i m hm
          have h6 := lb_ok h hm
          rw [ev_sub, ev_s] at h6
          cases h7 : leI hi (Int.neg m) with
          | true => exact ih tab h
          | false => exact ih _ (tOk_cons h h3.1 (by show ρ s ≤ -m; omega))
        · exact ih tab h
      | false =>
        rw [cond_false]
        cases h6 : eqI k (.negSucc 0) with
        | true =>
          rw [cond_true]
          split
          · rename_i m hm
            have h6 := lb_ok h hm
            rw [ev_add, ev_s] at h6
            cases h7 : leI m lo with
            | true => exact ih tab h
            | false => exact ih _ (tOk_cons h (by omega) h3.2)
          · exact ih tab h
        | false => exact ih tab h
    · exact ih tab h
/-- one fact more; none: it can't hold -/
def addLe (tab : Tb) (fs : List Ln) (e : Ln) : Option (Tb × List Ln) := bif le0 tab fs (pluL (sclL (.negSucc 0) e) 1) then none else match e.2 with
  | [] => some (tab, fs)
  | [(s, k)] => (match tbLk s tab with
    | some (lo, hi) => bif eqI k 1 then some (bif leI hi (Int.neg e.1) then tab else (s, lo, Int.neg e.1) :: tab, fs) else bif eqI k (.negSucc 0) then some (bif leI e.1 lo then tab else (s, e.1, hi) :: tab, fs) else some (tab, e :: fs)
    | none => some (tab, e :: fs))
  | _ => bif ub0 tab e then some (tab, fs) else some (propT e e.2 tab, e :: fs)
theorem fOk_cons {ρ : Nat → Int} {fs : List Ln} (h : fOk ρ fs) {e : Ln} (h1 : ev ρ e ≤ 0) : fOk ρ (e :: fs) := fun q hq => by
  rcases List.mem_cons.mp hq with rfl | hq
  · exact h1
  · exact h q hq
theorem addLe_ok {ρ : Nat → Int} {tab : Tb} {fs : List Ln} (h : tOk ρ tab) (hf : fOk ρ fs) {e : Ln} (he : ev ρ e ≤ 0) : ∃ tab' fs', addLe tab fs e = some (tab', fs') ∧ tOk ρ tab' ∧ fOk ρ fs' := by
  unfold addLe
  cases h1 : le0 tab fs (pluL (sclL (.negSucc 0) e) 1) with
  | true =>
    have h2 := le0_ok h hf h1
    rw [ev_plu, ev_scl] at h2
    have h3 : (Int.negSucc 0) * ev ρ e = - ev ρ e := by show (-1) * ev ρ e = _; omega
    omega
  | false =>
    obtain ⟨c, ts⟩ := e
    show ∃ tab' fs', (match ts with
      | [] => some (tab, fs)
      | [(s, k)] => (match tbLk s tab with
        | some (lo, hi) => bif eqI k 1 then some (bif leI hi (Int.neg c) then tab else (s, lo, Int.neg c) :: tab, fs) else bif eqI k (.negSucc 0) then some (bif leI c lo then tab else (s, c, hi) :: tab, fs) else some (tab, (c, ts) :: fs)
        | none => some (tab, (c, ts) :: fs))
      | _ => bif ub0 tab (c, ts) then some (tab, fs) else some (propT (c, ts) ts tab, (c, ts) :: fs)) = some (tab', fs') ∧ tOk ρ tab' ∧ fOk ρ fs'
    have hall : tOk ρ tab ∧ fOk ρ ((c, ts) :: fs) := ⟨h, fOk_cons hf he⟩
    split
    · exact ⟨_, _, rfl, h, hf⟩
    · rename_i s k
      cases h2 : tbLk s tab with
      | none => exact ⟨_, _, rfl, hall⟩
      | some b =>
        obtain ⟨lo, hi⟩ := b
        have h3 := tbLk_ok h h2
        have h4 : c + (k * ρ s + 0) ≤ 0 := he
        dsimp only at h3 ⊢
        cases h5 : eqI k 1 with
        | true =>
          have := eqI_eq h5
          subst this
          refine ⟨_, _, rfl, ?_, hf⟩
          cases h6 : leI hi (Int.neg c) with
          | true => exact h
          | false => exact tOk_cons h h3.1 (by show ρ s ≤ -c; omega)
        | false =>
          cases h5' : eqI k (.negSucc 0) with
          | true =>
            have := eqI_eq h5'
            subst this
            have h7 : (Int.negSucc 0) * ρ s = - ρ s := by show (-1) * ρ s = _; omega
            refine ⟨_, _, rfl, ?_, hf⟩
            cases h6 : leI c lo with
            | true => exact h
            | false => exact tOk_cons h (by omega) h3.2
          | false => exact ⟨_, _, rfl, hall⟩
    · cases h2 : ub0 tab (c, ts) with
      | true => exact ⟨_, _, rfl, h, hf⟩
      | false => exact ⟨_, _, rfl, propT_ok he _ _ h, hall.2⟩
/-- equal for sure -/
def eqT : List (Nat × Int) → List (Nat × Int) → Bool
  | [], [] => true
  | (s, k) :: r, (t, m) :: q => bif Nat.beq s t then (bif eqI k m then eqT r q else false) else false
  | _, _ => false
theorem eqT_eq {a b : List (Nat × Int)} (h : eqT a b = true) : a = b := by
  induction a generalizing b with
  | nil => cases b with
    | nil => rfl
    | cons q r => cases h
  | cons p r ih => cases b with
    | nil => cases h
    | cons q r' =>
      obtain ⟨s, k⟩ := p
      obtain ⟨t, m⟩ := q
      unfold eqT at h
      cases h1 : Nat.beq s t with
      | false => rw [h1] at h; cases h
      | true =>
        rw [h1] at h
        cases h2 : eqI k m with
        | false => rw [h2] at h; cases h
        | true =>
          rw [h2] at h
          rw [Nat.eq_of_beq_eq_true h1, eqI_eq h2, ih h]
def eqL (tab : Tb) (fs : List Ln) (a b : Ln) : Bool := bif (bif eqI a.1 b.1 then eqT a.2 b.2 else false) then true else bif le0 tab fs (subL a b) then le0 tab fs (subL b a) else false
theorem eqL_ok {ρ : Nat → Int} {tab : Tb} {fs : List Ln} (h : tOk ρ tab) (hf : fOk ρ fs) {a b : Ln} (he : eqL tab fs a b = true) : ev ρ a = ev ρ b := by
  unfold eqL at he
  cases h1 : (bif eqI a.1 b.1 then eqT a.2 b.2 else false) with
  | true =>
    cases h2 : eqI a.1 b.1 with
    | false => rw [h2] at h1; cases h1
    | true =>
      rw [h2] at h1
      obtain ⟨a1, a2⟩ := a
      obtain ⟨b1, b2⟩ := b
      have e1 : a1 = b1 := eqI_eq h2
      have e2 : a2 = b2 := eqT_eq h1
      rw [e1, e2]
  | false =>
    rw [h1] at he
    cases h2 : le0 tab fs (subL a b) with
    | false => rw [h2] at he; cases he
    | true =>
      rw [h2] at he
      have h3 := le0_ok h hf h2
      have h4 := le0_ok h hf he
      rw [ev_sub] at h3 h4
      omega
/-- the symbols replaced -/
def thLk (s : Nat) : List (Nat × Ln) → Ln
  | [] => (0, [])
  | (t, e) :: r => bif Nat.beq s t then e else thLk s r
def subT (θ : List (Nat × Ln)) : List (Nat × Int) → Ln → Ln
  | [], acc => acc
  | (s, k) :: r, acc => subT θ r (addL acc (sclL k (thLk s θ)))
def sbL (θ : List (Nat × Ln)) (e : Ln) : Ln := subT θ e.2 (kL e.1)
theorem ev_subT (ρ : Nat → Int) (θ : List (Nat × Ln)) (l : List (Nat × Int)) (acc : Ln) : ev ρ (subT θ l acc) = ev ρ acc + evT (fun s => ev ρ (thLk s θ)) l := by
  induction l generalizing acc with
  | nil => show ev ρ acc = ev ρ acc + 0; omega
  | cons q r ih =>
    obtain ⟨s, k⟩ := q
    show ev ρ (subT θ r (addL acc (sclL k (thLk s θ)))) = ev ρ acc + (k * ev ρ (thLk s θ) + evT _ r)
    rw [ih, ev_add, ev_scl]
    omega
theorem ev_sb (ρ : Nat → Int) (θ : List (Nat × Ln)) (e : Ln) : ev ρ (sbL θ e) = ev (fun s => ev ρ (thLk s θ)) e := by
  unfold sbL
  rw [ev_subT, ev_k]
  rfl
-- which symbols an expression speaks of
def scT (n : Nat) : List (Nat × Int) → Bool
  | [] => true
  | (s, _) :: r => bif Nat.blt s n then scT n r else false
def agr2 (n : Nat) (ρ ρ' : Nat → Int) : Prop := ∀ i, i < n → ρ' i = ρ i
theorem scT_ev {n : Nat} {ρ ρ' : Nat → Int} (ha : agr2 n ρ ρ') {l : List (Nat × Int)} (h : scT n l = true) : evT ρ' l = evT ρ l := by
  induction l with
  | nil => rfl
  | cons q r ih =>
    obtain ⟨s, k⟩ := q
    unfold scT at h
    cases h1 : Nat.blt s n with
    | false => rw [h1] at h; cases h
    | true =>
      rw [h1] at h
      have h2 : s < n := Nat.le_of_ble_eq_true h1
      show k * ρ' s + evT ρ' r = k * ρ s + evT ρ r
      rw [ha s h2, ih h]
def scL (n : Nat) (e : Ln) : Bool := scT n e.2
theorem scL_ev {n : Nat} {ρ ρ' : Nat → Int} (ha : agr2 n ρ ρ') {e : Ln} (h : scL n e = true) : ev ρ' e = ev ρ e := by
  show e.1 + evT ρ' e.2 = e.1 + evT ρ e.2
  rw [scT_ev ha h]
