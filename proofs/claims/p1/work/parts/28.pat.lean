/-! ===== patterns: what is known at a place, in symbols of its own ===== -/
abbrev Pt : Type := Nat × Tb × List Ln × List AV × AH × List PD
def PtOk (PP : Nat → List (List Int32) → List Int → Prop) (ρ : Nat → Int) (P : Pt) (vs : List Value) (σ : SH) : Prop :=
  tOk ρ P.2.1 ∧ fOk ρ P.2.2.1 ∧ rel2 (vrel ρ) vs P.2.2.2.1 ∧ rel2 (crel ρ) σ P.2.2.2.2.1 ∧ prOk PP ρ σ P.2.2.2.2.2
-- the symbols' meaning, found by looking (what is found is checked below)
abbrev Th : Type := List (Nat × Ln)
def thHas (s : Nat) : Th → Bool
  | [] => false
  | (t, _) :: r => bif Nat.beq s t then true else thHas s r
def uniL (θ : Th) (p a : Ln) : Th := match p.2 with
  | [(s, k)] => bif thHas s θ then θ else bif eqI k 1 then (s, pluL a (Int.neg p.1)) :: θ else θ
  | _ => θ
def uniV (θ : Th) (p a : AV) : Th := match p, a with
  | .inl (_, e), .inl (_, e') => uniL θ e e'
  | _, _ => θ
def uniVs (θ : Th) : List AV → List AV → Th
  | p :: r, a :: q => uniVs (uniV θ p a) r q
  | _, _ => θ
def uniS : Nat → Th → List Sg → List Sg → Th
  | 0, θ, _, _ => θ
  | n + 1, θ, p, a => match p, a with
    | .inl e :: r, .inl e' :: q => uniS n (uniL θ e e') r q
    | .inl e :: r, .inr (m, lo, hi) :: q => match m with
      | 0 => uniS n θ (.inl e :: r) q
      | m + 1 => uniS n (bif eqI lo hi then uniL θ e (kL lo) else θ) r (.inr (m, lo, hi) :: q)
    | .inr (m, lo, hi) :: r, .inl e' :: q => match m with
      | 0 => uniS n θ r (.inl e' :: q)
      | m + 1 => uniS n θ (.inr (m, lo, hi) :: r) q
    | .inr (m, lo, hi) :: r, .inr (m', lo', hi') :: q => bif Nat.ble m m' then (bif Nat.beq m m' then uniS n θ r q else uniS n θ r (.inr (Nat.sub m' m, lo', hi') :: q)) else uniS n θ (.inr (Nat.sub m m', lo, hi) :: r) q
    | _, _ => θ
def uniC (θ : Th) (p a : AC) : Th := match p, a with
  | .inl (_, l), .inl (_, l') => uniVs θ l l'
  | .inr (_, .inl s), .inr (_, .inl s') => uniS 600 θ s s'
  | _, _ => θ
def uniH (θ : Th) : AH → AH → Th
  | p :: r, a :: q => uniH (uniC θ p a) r q
  | _, _ => θ
def okNum (tab : Tb) (fs : List Ln) (θ : Th) (p a : Ln) : Bool := match p.2 with
  | [(s, _)] => bif thHas s θ then eqL tab fs (sbL θ p) a else true
  | _ => true
def okNums (tab : Tb) (fs : List Ln) (θ : Th) : List Ln → List Ln → Bool
  | p :: r, a :: q => bif okNum tab fs θ p a then okNums tab fs θ r q else false
  | [], [] => true
  | _, _ => false
def uniN (θ : Th) : List Ln → List Ln → Th
  | p :: r, a :: q => uniN (uniL θ p a) r q
  | _, _ => θ
-- checks
def chkV (tab : Tb) (fs : List Ln) (θ : Th) (p a : AV) : Bool := match p, a with
  | .inl (b, e), .inl (b', e') => bif lnB b b' then eqL tab fs (sbL θ e) e' else false
  | .inr (.inl (some i)), .inr (.inl (some j)) => Nat.beq i j
  | .inr (.inl none), .inr (.inl none) => true
  | _, _ => false
def chkVs (tab : Tb) (fs : List Ln) (θ : Th) : List AV → List AV → Bool
  | [], [] => true
  | p :: r, a :: q => bif chkV tab fs θ p a then chkVs tab fs θ r q else false
  | _, _ => false
def sgLe (tab : Tb) (fs : List Ln) (θ : Th) : Nat → List Sg → List Sg → Bool
  | 0, _, _ => false
  | n + 1, p, a => match p, a with
    | [], [] => true
    | .inl e :: r, .inl e' :: q => bif eqL tab fs (sbL θ e) e' then sgLe tab fs θ n r q else false
    | .inl e :: r, .inr (m, lo, hi) :: q => match m with
      | 0 => sgLe tab fs θ n (.inl e :: r) q
      | m + 1 => bif eqI lo hi then (bif eqL tab fs (sbL θ e) (kL lo) then sgLe tab fs θ n r (.inr (m, lo, hi) :: q) else false) else false
    | .inr (m, lo, hi) :: r, [] => bif Nat.beq m 0 then sgLe tab fs θ n r [] else false
    | [], .inr (m, _, _) :: q => bif Nat.beq m 0 then sgLe tab fs θ n [] q else false
    | .inr (m, lo, hi) :: r, .inl e' :: q => match m with
      | 0 => sgLe tab fs θ n r (.inl e' :: q)
      | m + 1 => bif inF tab fs lo hi e' then sgLe tab fs θ n (.inr (m, lo, hi) :: r) q else false
    | .inr (m, lo, hi) :: r, .inr (m', lo', hi') :: q => bif (bif Nat.beq m' 0 then true else bif Nat.beq m 0 then true else bif leI lo lo' then leI hi' hi else false) then (bif Nat.ble m m' then (bif Nat.beq m m' then sgLe tab fs θ n r q else sgLe tab fs θ n r (.inr (Nat.sub m' m, lo', hi') :: q)) else sgLe tab fs θ n (.inr (Nat.sub m m', lo, hi) :: r) q) else false
    | _, _ => false
def eqO : List (Option Nat) → List (Option Nat) → Bool
  | [], [] => true
  | some i :: r, some j :: q => bif Nat.beq i j then eqO r q else false
  | none :: r, none :: q => eqO r q
  | _, _ => false
def eqN : List Nat → List Nat → Bool
  | [], [] => true
  | i :: r, j :: q => bif Nat.beq i j then eqN r q else false
  | _, _ => false
def conLe (tab : Tb) (fs : List Ln) (θ : Th) (p a : List Sg) : Bool := match p, a with
  | [.inl e], [.inl e'] => eqL tab fs (sbL θ e) e'
  | _, _ => false
def chkC (tab : Tb) (fs : List Ln) (θ : Th) (p a : AC) : Bool := match p, a with
  | .inl (c, l), .inl (c', l') => bif Nat.beq c c' then chkVs tab fs θ l l' else false
  | .inr (k, .inl s), .inr (k', .inl s') => bif Nat.beq k k' then (bif Nat.blt k 100 then sgLe tab fs θ 600 s s' else conLe tab fs θ s s') else false
  | .inr (k, .inr (.inl m)), .inr (k', .inr (.inl m')) => bif Nat.beq k k' then (bif Nat.beq m m' then true else bif Nat.blt m zB then Nat.beq m' (Nat.add zB m) else false) else false
  | .inr (k, .inr (.inr l)), .inr (k', .inr (.inr l')) => bif Nat.beq k k' then eqO l l' else false
  | _, _ => false
def chkH (tab : Tb) (fs : List Ln) (θ : Th) : AH → AH → Bool
  | [], [] => true
  | p :: r, a :: q => bif chkC tab fs θ p a then chkH tab fs θ r q else false
  | _, _ => false
def uniP1 (tab : Tb) (fs : List Ln) (θ : Th) (p : PD) : List PD → Th
  | [] => θ
  | q :: r => bif (bif Nat.beq p.1 q.1 then (bif eqN p.2.1 q.2.1 then okNums tab fs θ p.2.2 q.2.2 else false) else false) then uniN θ p.2.2 q.2.2 else uniP1 tab fs θ p r
def uniP (tab : Tb) (fs : List Ln) (a : List PD) (θ : Th) : List PD → Th
  | [] => θ
  | (k, l, []) :: r => uniP tab fs a θ r
  | p :: r => uniP tab fs a (uniP1 tab fs θ p a) r
def chkN (tab : Tb) (fs : List Ln) (θ : Th) : List Ln → List Ln → Bool
  | [], [] => true
  | p :: r, a :: q => bif eqL tab fs (sbL θ p) a then chkN tab fs θ r q else false
  | _, _ => false
def hasP (tab : Tb) (fs : List Ln) (θ : Th) (p : PD) : List PD → Bool
  | [] => false
  | q :: r => bif (bif Nat.beq p.1 q.1 then (bif eqN p.2.1 q.2.1 then chkN tab fs θ p.2.2 q.2.2 else false) else false) then true else hasP tab fs θ p r
def chkP (tab : Tb) (fs : List Ln) (θ : Th) (a : List PD) : List PD → Bool
  | [] => true
  | p :: r => bif hasP tab fs θ p a then chkP tab fs θ a r else false
def chkT (tab : Tb) (fs : List Ln) (θ : Th) : Tb → Bool
  | [] => true
  | (s, lo, hi) :: r => bif inF tab fs lo hi (thLk s θ) then chkT tab fs θ r else false
def chkF (tab : Tb) (fs : List Ln) (θ : Th) : List Ln → Bool
  | [] => true
  | f :: r => bif le0 tab fs (sbL θ f) then chkF tab fs θ r else false
def instP (tab : Tb) (fs : List Ln) (θ : Th) (P : Pt) (vs : List AV) (A : AH) (pr : List PD) : Bool :=
  bif chkVs tab fs θ P.2.2.2.1 vs then (bif chkH tab fs θ P.2.2.2.2.1 A then (bif chkT tab fs θ P.2.1 then (bif chkF tab fs θ P.2.2.1 then chkP tab fs θ pr P.2.2.2.2.2 else false) else false) else false) else false
def thOf (tab : Tb) (fs : List Ln) (P : Pt) (vs : List AV) (A : AH) (pr : List PD) : Th := uniP tab fs pr (uniH (uniVs [] P.2.2.2.1 vs) P.2.2.2.2.1 A) P.2.2.2.2.2
section PAT
variable {ρ : Nat → Int} {tab : Tb} {fs : List Ln} {θ : Th}
abbrev thE (ρ : Nat → Int) (θ : Th) : Nat → Int := fun s => ev ρ (thLk s θ)
theorem eqLθ (ht : tOk ρ tab) (hf : fOk ρ fs) {e e' : Ln} (h : eqL tab fs (sbL θ e) e' = true) : ev (thE ρ θ) e = ev ρ e' := by
  rw [← eqL_ok ht hf h, ev_sb]
theorem chkV_ok (ht : tOk ρ tab) (hf : fOk ρ fs) {v : Value} {p a : AV} (ha : vrel ρ v a) (h : chkV tab fs θ p a = true) : vrel (thE ρ θ) v p := by
  unfold chkV at h
  split at h
  · rename_i b e b' e'
    cases hb : lnB b b' with
    | false => rw [hb] at h; cases h
    | true =>
      rw [hb] at h
      have := lnB_eq hb
      subst this
      cases b with
      | false => obtain ⟨x, e1, e2⟩ := ha; exact ⟨x, e1, e2.trans (eqLθ ht hf h).symm⟩
      | true => obtain ⟨x, e1, e2⟩ := ha; exact ⟨x, e1, e2.trans (eqLθ ht hf h).symm⟩
  · rename_i i j
    have := Nat.eq_of_beq_eq_true h
    subst this
    exact ha
  · exact ha
  · cases h
theorem chkVs_ok (ht : tOk ρ tab) (hf : fOk ρ fs) {vs : List Value} {ps as : List AV} (ha : rel2 (vrel ρ) vs as) (h : chkVs tab fs θ ps as = true) : rel2 (vrel (thE ρ θ)) vs ps := by
  induction ps generalizing vs as with
  | nil =>
    cases as with
    | nil => rw [rel2_nil ha]; exact trivial
    | cons a r => cases h
  | cons p r ih =>
    cases as with
    | nil => cases h
    | cons a q =>
      unfold chkVs at h
      cases hc : chkV tab fs θ p a with
      | false => rw [hc] at h; cases h
      | true =>
        rw [hc] at h
        obtain ⟨v, vs', e, h1, h2⟩ := rel2_cons ha
        subst e
        exact ⟨chkV_ok ht hf h1 hc, ih h2 h⟩
theorem srel_zero {ρ : Nat → Int} {lo hi : Int} {r : List Sg} {l : List Int32} (h : srel ρ r l) : srel ρ (.inr (0, lo, hi) :: r) l := ⟨[], l, rfl, rfl, fun x hx => (by cases hx), h⟩
theorem srel_zero' {ρ : Nat → Int} {lo hi : Int} {r : List Sg} {l : List Int32} (h : srel ρ (.inr (0, lo, hi) :: r) l) : srel ρ r l := by
  obtain ⟨l1, l2, e1, e2, e3, e4⟩ := h
  have := List.length_eq_zero_iff.mp e2
  subst this
  subst e1
  exact e4
theorem srel_split {ρ : Nat → Int} {m k : Nat} {lo hi : Int} {r : List Sg} {l : List Int32} (h : srel ρ (.inr (m + k, lo, hi) :: r) l) : ∃ l1 l2, l = l1 ++ l2 ∧ l1.length = m ∧ (∀ x ∈ l1, lo ≤ x.toInt ∧ x.toInt ≤ hi) ∧ srel ρ (.inr (k, lo, hi) :: r) l2 := by
  obtain ⟨l1, l2, e1, e2, e3, e4⟩ := h
  subst e1
  refine ⟨l1.take m, l1.drop m ++ l2, by rw [← List.append_assoc, List.take_append_drop], by rw [List.length_take]; omega, fun x hx => e3 x (List.mem_of_mem_take hx), l1.drop m, l2, rfl, by rw [List.length_drop]; omega, fun x hx => e3 x (List.mem_of_mem_drop hx), e4⟩
theorem srel_join {ρ : Nat → Int} {m k : Nat} {lo hi : Int} {r : List Sg} {l1 l2 : List Int32} (h1 : l1.length = m) (h2 : ∀ x ∈ l1, lo ≤ x.toInt ∧ x.toInt ≤ hi) (h : srel ρ (.inr (k, lo, hi) :: r) l2) : srel ρ (.inr (m + k, lo, hi) :: r) (l1 ++ l2) := by
  obtain ⟨l3, l4, e1, e2, e3, e4⟩ := h
  subst e1
  refine ⟨l1 ++ l3, l4, by rw [List.append_assoc], by rw [List.length_append]; omega, fun x hx => ?_, e4⟩
  rcases List.mem_append.mp hx with q | q
  · exact h2 x q
  · exact e3 x q
theorem sgLe_ok (ht : tOk ρ tab) (hf : fOk ρ fs) : ∀ (n : Nat) (p a : List Sg) (l : List Int32), sgLe tab fs θ n p a = true → srel ρ a l → srel (thE ρ θ) p l := by
  intro n
  induction n with
  | zero => intro p a l h; cases h
  | succ n ih =>
    intro p a l h hl
    unfold sgLe at h
    split at h
    · exact hl
    · rename_i e r e' q
      cases hc : eqL tab fs (sbL θ e) e' with
      | false => rw [hc] at h; cases h
      | true =>
        rw [hc] at h
        obtain ⟨x, l', e1, e2, h3⟩ := hl
        exact ⟨x, l', e1, e2.trans (eqLθ ht hf hc).symm, ih _ _ _ h h3⟩
    · rename_i e r m lo hi q
      split at h
      · exact ih _ _ _ h (srel_zero' hl)
      · rename_i m
        cases hc : eqI lo hi with
        | false => rw [hc] at h; cases h
        | true =>
          rw [hc] at h
          cases hd : eqL tab fs (sbL θ e) (kL lo) with
          | false => rw [hd] at h; cases h
          | true =>
            rw [hd] at h
            have := eqI_eq hc
            subst this
            rw [show Nat.succ m = 1 + m by omega] at hl
            obtain ⟨l1, l2, e1, e2, e3, e4⟩ := srel_split hl
            match l1, e2 with
            | [x], _ =>
              have e5 := e3 x List.mem_cons_self
              exact ⟨x, l2, e1, by rw [eqLθ ht hf hd, ev_k]; omega, ih _ _ _ h e4⟩
    · rename_i m lo hi r
      cases hc : Nat.beq m 0 with
      | false => rw [hc] at h; cases h
      | true =>
        rw [hc] at h
        have := Nat.eq_of_beq_eq_true hc
        subst this
        exact srel_zero (ih _ _ _ h hl)
    · rename_i m lo hi q
      cases hc : Nat.beq m 0 with
      | false => rw [hc] at h; cases h
      | true =>
        rw [hc] at h
        have := Nat.eq_of_beq_eq_true hc
        subst this
        exact ih _ _ _ h (srel_zero' hl)
    · rename_i m lo hi r e' q
      split at h
      · exact srel_zero (ih _ _ _ h hl)
      · rename_i m
        cases hc : inF tab fs lo hi e' with
        | false => rw [hc] at h; cases h
        | true =>
          rw [hc] at h
          obtain ⟨x, l', e1, e2, h3⟩ := hl
          have e5 := inF_ok ht hf hc
          subst e1
          rw [show Nat.succ m = 1 + m by omega]
          exact srel_join (l1 := [x]) rfl (fun y hy => by rw [List.mem_singleton.mp hy, e2]; exact e5) (ih _ _ _ h h3)
    · rename_i m lo hi r m' lo' hi' q
      cases hc : (bif Nat.beq m' 0 then true else bif Nat.beq m 0 then true else bif leI lo lo' then leI hi' hi else false) with
      | false => rw [hc] at h; cases h
      | true =>
        rw [hc] at h
        have fit : ∀ (k : Nat) (l1 : List Int32), l1.length = k → k ≤ m → k ≤ m' → (∀ x ∈ l1, lo' ≤ x.toInt ∧ x.toInt ≤ hi') → ∀ x ∈ l1, lo ≤ x.toInt ∧ x.toInt ≤ hi := by
          intro k l1 hk h1 h2 hx x hxm
          have hpos : 0 < l1.length := List.length_pos_of_mem hxm
          cases z1 : Nat.beq m' 0 with
          | true => have := Nat.eq_of_beq_eq_true z1; omega
          | false =>
            cases z2 : Nat.beq m 0 with
            | true => have := Nat.eq_of_beq_eq_true z2; omega
            | false =>
              rw [z1, z2] at hc
              simp only [cond_false] at hc
              cases z3 : leI lo lo' with
              | false => rw [z3] at hc; cases hc
              | true =>
                rw [z3] at hc
                have q1 := leI_le z3
                have q2 := leI_le hc
                have q3 := hx x hxm
                omega
        simp only [cond_true] at h
        cases hd : Nat.ble m m' with
        | true =>
          rw [hd] at h
          have hle := Nat.le_of_ble_eq_true hd
          simp only [cond_true] at h
          cases he : Nat.beq m m' with
          | true =>
            rw [he] at h
            have := Nat.eq_of_beq_eq_true he
            subst this
            obtain ⟨l1, l2, e1, e2, e3, e4⟩ := hl
            exact ⟨l1, l2, e1, e2, fit m l1 e2 (Nat.le_refl _) (Nat.le_refl _) e3, ih _ _ _ h e4⟩
          | false =>
            rw [he] at h
            have e0 : m' = m + Nat.sub m' m := by show m' = m + (m' - m); omega
            rw [e0] at hl
            obtain ⟨l1, l2, e1, e2, e3, e4⟩ := srel_split hl
            exact ⟨l1, l2, e1, e2, fit m l1 e2 (Nat.le_refl _) hle e3, ih _ _ _ h e4⟩
        | false =>
          rw [hd] at h
          have hlt : m' < m := Nat.lt_of_not_le fun q => by rw [Nat.ble_eq_true_of_le q] at hd; cases hd
          obtain ⟨l1, l2, e1, e2, e3, e4⟩ := hl
          subst e1
          have e0 : m = m' + Nat.sub m m' := by show m = m' + (m - m'); omega
          rw [e0]
          exact srel_join e2 (fit m' l1 e2 (by omega) (Nat.le_refl _) e3) (ih _ _ _ h e4)
    · cases h
theorem eqO_eq {a b : List (Option Nat)} (h : eqO a b = true) : a = b := by
  induction a generalizing b with
  | nil => cases b with
    | nil => rfl
    | cons q r => cases h
  | cons p r ih => cases b with
    | nil => cases p <;> cases h
    | cons q r' =>
      cases p with
      | none => cases q with
        | none => rw [ih h]
        | some j => cases h
      | some i => cases q with
        | none => cases h
        | some j =>
          unfold eqO at h
          cases h1 : Nat.beq i j with
          | false => rw [h1] at h; cases h
          | true => rw [h1] at h; rw [Nat.eq_of_beq_eq_true h1, ih h]
theorem eqN_eq {a b : List Nat} (h : eqN a b = true) : a = b := by
  induction a generalizing b with
  | nil => cases b with
    | nil => rfl
    | cons q r => cases h
  | cons p r ih => cases b with
    | nil => cases h
    | cons q r' =>
      unfold eqN at h
      cases h1 : Nat.beq p q with
      | false => rw [h1] at h; cases h
      | true => rw [h1] at h; rw [Nat.eq_of_beq_eq_true h1, ih h]
theorem chkC_ok (ht : tOk ρ tab) (hf : fOk ρ fs) {c : SC} {p a : AC} (ha : crel ρ c a) (h : chkC tab fs θ p a = true) : crel (thE ρ θ) c p := by
  unfold chkC at h
  split at h
  · rename_i k l k' l'
    cases hb : Nat.beq k k' with
    | false => rw [hb] at h; cases h
    | true =>
      rw [hb] at h
      rw [Nat.eq_of_beq_eq_true hb]
      obtain ⟨f, e1, e2⟩ := ha
      exact ⟨f, e1, chkVs_ok ht hf e2 h⟩
  · rename_i k l k' l'
    cases hb : Nat.beq k k' with
    | false => rw [hb] at h; cases h
    | true =>
      rw [hb] at h
      have hkk := Nat.eq_of_beq_eq_true hb
      subst hkk
      have ha' : arel ρ k l' c := ha
      show arel (thE ρ θ) k l c
      unfold arel at ha' ⊢
      cases hk : Nat.blt k 100 with
      | true =>
        rw [hk] at h
        rw [if_pos (blt_iff.mp hk)] at ha' ⊢
        obtain ⟨f, e1, e2⟩ := ha'
        exact ⟨f, e1, sgLe_ok ht hf _ _ _ _ h e2⟩
      | false =>
        rw [hk] at h
        have hn : ¬ k < 100 := Nat.not_lt.mpr (blt_f hk)
        rw [if_neg hn] at ha' ⊢
        obtain ⟨f, e1, e2⟩ := ha'
        refine ⟨f, e1, ?_⟩
        simp only [cond_true, cond_false] at h
        unfold conLe at h
        split at h
        · exact Eq.trans e2 (eqLθ ht hf h).symm
        · cases h
  · rename_i k l k' l'
    cases hb : Nat.beq k k' with
    | false => rw [hb] at h; cases h
    | true =>
      rw [hb] at h
      rw [Nat.eq_of_beq_eq_true hb]
      obtain ⟨f, e1, e2⟩ := ha
      simp only [cond_true] at h
      cases hc : Nat.beq l l' with
      | true => exact ⟨f, e1, by rw [Nat.eq_of_beq_eq_true hc]; exact e2⟩
      | false =>
        rw [hc, cond_false] at h
        cases hd : Nat.blt l zB with
        | false => rw [hd] at h; cases h
        | true =>
          rw [hd, cond_true] at h
          have e3 : l' = Nat.add zB l := Nat.eq_of_beq_eq_true h
          have hd' := blt_iff.mp hd
          refine ⟨f, e1, ?_, fun h2 => by rw [hd] at h2; cases h2⟩
          rw [e2.1, e3, jLen_add hd', jLen_lt hd]
  · rename_i k l k' l'
    cases hb : Nat.beq k k' with
    | false => rw [hb] at h; cases h
    | true =>
      rw [hb] at h
      rw [Nat.eq_of_beq_eq_true hb, eqO_eq h]
      exact ha
  · cases h
theorem chkH_ok (ht : tOk ρ tab) (hf : fOk ρ fs) {σ : SH} {ps as : AH} (ha : rel2 (crel ρ) σ as) (h : chkH tab fs θ ps as = true) : rel2 (crel (thE ρ θ)) σ ps := by
  induction ps generalizing σ as with
  | nil =>
    cases as with
    | nil => rw [rel2_nil ha]; exact trivial
    | cons a r => cases h
  | cons p r ih =>
    cases as with
    | nil => cases h
    | cons a q =>
      unfold chkH at h
      cases hc : chkC tab fs θ p a with
      | false => rw [hc] at h; cases h
      | true =>
        rw [hc] at h
        obtain ⟨v, vs', e, h1, h2⟩ := rel2_cons ha
        subst e
        exact ⟨chkC_ok ht hf h1 hc, ih h2 h⟩
theorem chkN_ok (ht : tOk ρ tab) (hf : fOk ρ fs) {ps as : List Ln} (h : chkN tab fs θ ps as = true) : ps.map (ev (thE ρ θ)) = as.map (ev ρ) := by
  induction ps generalizing as with
  | nil =>
    cases as with
    | nil => rfl
    | cons a r => cases h
  | cons p r ih =>
    cases as with
    | nil => cases h
    | cons a q =>
      unfold chkN at h
      cases h1 : eqL tab fs (sbL θ p) a with
      | false => rw [h1] at h; cases h
      | true =>
        rw [h1] at h
        rw [List.map_cons, List.map_cons, ih h, eqLθ ht hf h1]
theorem hasP_mem (ht : tOk ρ tab) (hf : fOk ρ fs) {p : PD} {a : List PD} (h : hasP tab fs θ p a = true) : ∃ q ∈ a, p.1 = q.1 ∧ p.2.1 = q.2.1 ∧ p.2.2.map (ev (thE ρ θ)) = q.2.2.map (ev ρ) := by
  induction a with
  | nil => cases h
  | cons q r ih =>
    unfold hasP at h
    cases h1 : (bif Nat.beq p.1 q.1 then (bif eqN p.2.1 q.2.1 then chkN tab fs θ p.2.2 q.2.2 else false) else false) with
    | false =>
      rw [h1] at h
      obtain ⟨q', q1, q2⟩ := ih h
      exact ⟨q', List.mem_cons_of_mem _ q1, q2⟩
    | true =>
      cases h2 : Nat.beq p.1 q.1 with
      | false => rw [h2] at h1; cases h1
      | true =>
        rw [h2] at h1
        cases h3 : eqN p.2.1 q.2.1 with
        | false => rw [h3] at h1; cases h1
        | true =>
          rw [h3] at h1
          exact ⟨q, List.mem_cons_self, Nat.eq_of_beq_eq_true h2, eqN_eq h3, chkN_ok ht hf h1⟩
theorem chkP_ok (ht : tOk ρ tab) (hf : fOk ρ fs) {a ps : List PD} (h : chkP tab fs θ a ps = true) : ∀ p ∈ ps, ∃ q ∈ a, p.1 = q.1 ∧ p.2.1 = q.2.1 ∧ p.2.2.map (ev (thE ρ θ)) = q.2.2.map (ev ρ) := by
  induction ps with
  | nil => intro p hp; cases hp
  | cons q r ih =>
    unfold chkP at h
    cases h1 : hasP tab fs θ q a with
    | false => rw [h1] at h; cases h
    | true =>
      rw [h1] at h
      intro p hp
      rcases List.mem_cons.mp hp with rfl | hp
      · exact hasP_mem ht hf h1
      · exact ih h p hp
theorem chkT_ok (ht : tOk ρ tab) (hf : fOk ρ fs) {ps : Tb} (h : chkT tab fs θ ps = true) : tOk (thE ρ θ) ps := by
  induction ps with
  | nil => intro p hp; cases hp
  | cons q r ih =>
    obtain ⟨s, lo, hi⟩ := q
    unfold chkT at h
    cases h1 : inF tab fs lo hi (thLk s θ) with
    | false => rw [h1] at h; cases h
    | true =>
      rw [h1] at h
      intro p hp
      rcases List.mem_cons.mp hp with rfl | hp
      · exact inF_ok ht hf h1
      · exact ih h p hp
theorem chkF_ok (ht : tOk ρ tab) (hf : fOk ρ fs) {ps : List Ln} (h : chkF tab fs θ ps = true) : fOk (thE ρ θ) ps := by
  induction ps with
  | nil => intro p hp; cases hp
  | cons q r ih =>
    unfold chkF at h
    cases h1 : le0 tab fs (sbL θ q) with
    | false => rw [h1] at h; cases h
    | true =>
      rw [h1] at h
      intro p hp
      rcases List.mem_cons.mp hp with rfl | hp
      · have := le0_ok ht hf h1
        rw [ev_sb] at this
        exact this
      · exact ih h p hp
theorem instP_ok {PP : Nat → List (List Int32) → List Int → Prop} {P : Pt} {vs : List AV} {A : AH} {pr : List PD} {cvs : List Value} {σ : SH} (ht : tOk ρ tab) (hf : fOk ρ fs) (hv : rel2 (vrel ρ) cvs vs) (hA : rel2 (crel ρ) σ A) (hp : prOk PP ρ σ pr) (h : instP tab fs θ P vs A pr = true) : PtOk PP (thE ρ θ) P cvs σ := by
  unfold instP at h
  cases h1 : chkVs tab fs θ P.2.2.2.1 vs with
  | false => rw [h1] at h; cases h
  | true =>
    rw [h1] at h
    cases h2 : chkH tab fs θ P.2.2.2.2.1 A with
    | false => rw [h2] at h; cases h
    | true =>
      rw [h2] at h
      cases h3 : chkT tab fs θ P.2.1 with
      | false => rw [h3] at h; cases h
      | true =>
        rw [h3] at h
        cases h4 : chkF tab fs θ P.2.2.1 with
        | false => rw [h4] at h; cases h
        | true =>
          rw [h4] at h
          exact ⟨chkT_ok ht hf h3, chkF_ok ht hf h4, chkVs_ok ht hf hv h1, chkH_ok ht hf hA h2, fun p hq => (by
            obtain ⟨q, q1, q2, q3, q4⟩ := chkP_ok ht hf h p hq
            rw [q2, q3, q4]
            exact hp q q1)⟩
end PAT
-- which symbols a pattern speaks of
def scV (n : Nat) (a : AV) : Bool := match a with
  | .inl (_, e) => scL n e
  | .inr (.inr (p, q)) => bif scL n p then scL n q else false
  | _ => true
def scS (n : Nat) (s : Sg) : Bool := match s with
  | .inl e => scL n e
  | _ => true
def scC (n : Nat) (c : AC) : Bool := match c with
  | .inl (_, as) => as.all (scV n)
  | .inr (_, .inl s) => s.all (scS n)
  | _ => true
def scP (P : Pt) : Bool := P.2.1.all (fun q => Nat.blt q.1 P.1) && (P.2.2.1.all (scL P.1) && (P.2.2.2.1.all (scV P.1) && (P.2.2.2.2.1.all (scC P.1) && P.2.2.2.2.2.all (fun p => p.2.2.all (scL P.1)))))
section SC
variable {n : Nat} {ρ ρ' : Nat → Int}
theorem scV_ok (ha : agr2 n ρ ρ') {v : Value} {a : AV} (hs : scV n a = true) (h : vrel ρ v a) : vrel ρ' v a := by
  match a, h with
  | .inl (false, e), ⟨x, e1, e2⟩ => exact ⟨x, e1, e2.trans (scL_ev ha hs).symm⟩
  | .inl (true, e), ⟨x, e1, e2⟩ => exact ⟨x, e1, e2.trans (scL_ev ha hs).symm⟩
  | .inr (.inl (some i)), e1 => exact e1
  | .inr (.inl none), e1 => exact e1
  | .inr (.inr (p, q)), e1 =>
    have hs' : (bif scL n p then scL n q else false) = true := hs
    cases h1 : scL n p with
    | false => rw [h1] at hs'; cases hs'
    | true =>
      rw [h1] at hs'
      show v = .int (cmpZ (ev ρ' p) (ev ρ' q))
      rw [scL_ev ha h1, scL_ev ha hs']
      exact e1
theorem rel2_all {α β : Type} {R R' : α → β → Prop} {f : β → Bool} (hi : ∀ a b, f b = true → R a b → R' a b) {l : List α} {r : List β} (hr : r.all f = true) (h : rel2 R l r) : rel2 R' l r := by
  induction r generalizing l with
  | nil => rw [rel2_nil h]; exact trivial
  | cons b r ih =>
    obtain ⟨a, l', e, h1, h2⟩ := rel2_cons h
    subst e
    rw [List.all_cons, Bool.and_eq_true] at hr
    exact ⟨hi a b hr.1 h1, ih hr.2 h2⟩
theorem scS_ok (ha : agr2 n ρ ρ') {s : List Sg} {l : List Int32} (hs : s.all (scS n) = true) (h : srel ρ s l) : srel ρ' s l := by
  induction s generalizing l with
  | nil => exact h
  | cons q r ih =>
    rw [List.all_cons, Bool.and_eq_true] at hs
    match q, h, hs with
    | .inl e, ⟨x, l', e1, e2, h2⟩, hs => exact ⟨x, l', e1, e2.trans (scL_ev ha hs.1).symm, ih hs.2 h2⟩
    | .inr (m, lo, hi), ⟨l1, l2, e1, e2, e3, h2⟩, hs => exact ⟨l1, l2, e1, e2, e3, ih hs.2 h2⟩
theorem scC_ok (ha : agr2 n ρ ρ') {c : SC} {a : AC} (hs : scC n a = true) (h : crel ρ c a) : crel ρ' c a := by
  match a, h with
  | .inl (ci, as), ⟨fs, e, h'⟩ => exact ⟨fs, e, rel2_all (f := scV n) (R' := vrel ρ') (fun _ _ q r => scV_ok ha q r) hs h'⟩
  | .inr (k, .inl s), h =>
    have h' : arel ρ k s c := h
    show arel ρ' k s c
    unfold arel at h' ⊢
    split at h'
    · rename_i hk
      rw [if_pos hk]
      obtain ⟨l, e, h2⟩ := h'
      exact ⟨l, e, scS_ok ha hs h2⟩
    · rename_i hk
      rw [if_neg hk]
      obtain ⟨l, e, h2⟩ := h'
      refine ⟨l, e, ?_⟩
      match s, hs, h2 with
      | [.inl e], hs, h2 =>
        have hs' : ([Sum.inl e] : List Sg).all (scS n) = true := hs
        simp only [List.all_cons, List.all_nil, Bool.and_true] at hs'
        exact Eq.trans h2 (scL_ev ha hs').symm
  | .inr (k, .inr (.inl m)), ⟨l, e, h'⟩ => exact ⟨l, e, h'⟩
  | .inr (k, .inr (.inr q)), e => exact e
end SC
theorem prOk_agr {PP : Nat → List (List Int32) → List Int → Prop} {n : Nat} {ρ ρ' : Nat → Int} {σ : SH} {pr : List PD} (ha : agr2 n ρ ρ') (hs : pr.all (fun p => p.2.2.all (scL n)) = true) (h : prOk PP ρ σ pr) : prOk PP ρ' σ pr := fun p hp => by
  have e : p.2.2.map (ev ρ') = p.2.2.map (ev ρ) := List.map_congr_left fun e he => scL_ev ha (List.all_eq_true.mp (List.all_eq_true.mp hs p hp) e he)
  rw [e]
  exact h p hp
theorem PtOk_agr {PP : Nat → List (List Int32) → List Int → Prop} {P : Pt} {ρ ρ' : Nat → Int} {vs : List Value} {σ : SH} (hs : scP P = true) (ha : agr2 P.1 ρ ρ') (h : PtOk PP ρ P vs σ) : PtOk PP ρ' P vs σ := by
  unfold scP at hs
  simp only [Bool.and_eq_true] at hs
  obtain ⟨s1, s2, s3, s4, s5⟩ := hs
  obtain ⟨h1, h2, h3, h4, h5⟩ := h
  refine ⟨fun q hq => ?_, fun f hf => ?_, rel2_all (f := scV P.1) (R' := vrel ρ') (fun _ _ q r => scV_ok ha q r) s3 h3, rel2_all (f := scC P.1) (R' := crel ρ') (fun _ _ q r => scC_ok ha q r) s4 h4, prOk_agr ha s5 h5⟩
  · rw [ha q.1 (blt_iff.mp (List.all_eq_true.mp s1 q hq))]
    exact h1 q hq
  · rw [scL_ev ha (List.all_eq_true.mp s2 f hf)]
    exact h2 f hf
