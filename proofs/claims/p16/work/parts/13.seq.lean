/- A number for a row of numbers: every natural number is one row of finite support, 0 the row of noughts.
   g X k: its k-th; u X k v: the same with v at k. -/
noncomputable def seqHdF : Nat → Nat → Nat
  | 0, _ => 0
  | f+1, m => if m % 2 = 0 then seqHdF f (m / 2) + 1 else 0
noncomputable def seqTlF : Nat → Nat → Nat
  | 0, _ => 0
  | f+1, m => if m % 2 = 0 then seqTlF f (m / 2) else m / 2
noncomputable def seqHd (n : Nat) : Nat := seqHdF (n+1) (n+1)
noncomputable def seqTl (n : Nat) : Nat := seqTlF (n+1) (n+1)
noncomputable def seqPr (a b : Nat) : Nat := 2 ^ a * (2 * b + 1) - 1

theorem seqF_eta : ∀ (f m : Nat), 0 < m → m ≤ f → 2 ^ (seqHdF f m) * (2 * seqTlF f m + 1) = m := by
  intro f
  induction f with
  | zero => intro m h1 h2; omega
  | succ f ih =>
    intro m h1 h2
    unfold seqHdF seqTlF
    by_cases h : m % 2 = 0
    · rw [if_pos h, if_pos h, Nat.pow_succ, Nat.mul_comm (2 ^ _) 2, Nat.mul_assoc, ih (m/2) (by omega) (by omega)]
      omega
    · rw [if_neg h, if_neg h, Nat.pow_zero, Nat.one_mul]
      omega

theorem seq_eta (n : Nat) : seqPr (seqHd n) (seqTl n) = n := by
  unfold seqPr seqHd seqTl
  rw [seqF_eta (n+1) (n+1) (Nat.succ_pos n) (Nat.le_refl _)]
  rfl

theorem seqF_pr : ∀ (a b f : Nat), a < f → seqHdF f (2 ^ a * (2 * b + 1)) = a ∧ seqTlF f (2 ^ a * (2 * b + 1)) = b := by
  intro a
  induction a with
  | zero =>
    intro b f h
    cases f with
    | zero => omega
    | succ f =>
      have e : 2 ^ 0 * (2 * b + 1) = 2 * b + 1 := by rw [Nat.pow_zero, Nat.one_mul]
      have h2 : ¬ (2 * b + 1) % 2 = 0 := by omega
      unfold seqHdF seqTlF
      rw [e, if_neg h2, if_neg h2]
      exact ⟨rfl, by omega⟩
  | succ a ih =>
    intro b f h
    cases f with
    | zero => omega
    | succ f =>
      have e : 2 ^ (a+1) * (2 * b + 1) = 2 * (2 ^ a * (2 * b + 1)) := by
        rw [Nat.pow_succ, Nat.mul_comm (2 ^ a) 2, Nat.mul_assoc]
      have h1 : 2 ^ (a+1) * (2 * b + 1) % 2 = 0 := by rw [e]; omega
      have h2 : 2 ^ (a+1) * (2 * b + 1) / 2 = 2 ^ a * (2 * b + 1) := by rw [e]; omega
      unfold seqHdF seqTlF
      rw [if_pos h1, if_pos h1, h2, (ih b f (by omega)).1, (ih b f (by omega)).2]
      exact ⟨rfl, rfl⟩

theorem seq_pow_gt : ∀ a : Nat, a < 2 ^ a := by
  intro a
  induction a with
  | zero => decide
  | succ a ih => rw [Nat.pow_succ]; omega

theorem seqPr_succ (a b : Nat) : seqPr a b + 1 = 2 ^ a * (2 * b + 1) := by
  unfold seqPr
  have h : 0 < 2 ^ a * (2 * b + 1) := Nat.mul_pos (Nat.lt_of_le_of_lt (Nat.zero_le _) (seq_pow_gt a)) (Nat.succ_pos _)
  omega

theorem seqHd_pr (a b : Nat) : seqHd (seqPr a b) = a := by
  unfold seqHd
  rw [seqPr_succ]
  refine (seqF_pr a b _ ?_).1
  have h1 := seq_pow_gt a
  have h2 : 2 ^ a * 1 ≤ 2 ^ a * (2 * b + 1) := Nat.mul_le_mul_left _ (by omega)
  omega

theorem seqTl_pr (a b : Nat) : seqTl (seqPr a b) = b := by
  unfold seqTl
  rw [seqPr_succ]
  refine (seqF_pr a b _ ?_).2
  have h1 := seq_pow_gt a
  have h2 : 2 ^ a * 1 ≤ 2 ^ a * (2 * b + 1) := Nat.mul_le_mul_left _ (by omega)
  omega

theorem seqTl_lt (n : Nat) (h : 0 < n) : seqTl n < n := by
  have e := seqPr_succ (seqHd n) (seqTl n)
  rw [seq_eta] at e
  have h1 : 1 ≤ 2 ^ seqHd n := Nat.lt_of_le_of_lt (Nat.zero_le _) (seq_pow_gt _)
  have h2 : 1 * (2 * seqTl n + 1) ≤ 2 ^ seqHd n * (2 * seqTl n + 1) := Nat.mul_le_mul_right _ h1
  omega

theorem seqHd_zero : seqHd 0 = 0 := by decide
theorem seqTl_zero : seqTl 0 = 0 := by decide

noncomputable def seqGet : Nat → Nat → Nat
  | n, 0 => seqHd n
  | n, k+1 => seqGet (seqTl n) k
noncomputable def seqSet : Nat → Nat → Nat → Nat
  | n, 0, v => seqPr v (seqTl n)
  | n, k+1, v => seqPr (seqHd n) (seqSet (seqTl n) k v)

theorem seqGet_set : ∀ (k n v : Nat), seqGet (seqSet n k v) k = v := by
  intro k
  induction k with
  | zero => intro n v; exact seqHd_pr v _
  | succ k ih => intro n v; show seqGet (seqTl (seqPr (seqHd n) (seqSet (seqTl n) k v))) k = v; rw [seqTl_pr]; exact ih _ _

theorem seqGet_ne : ∀ (k j n v : Nat), j ≠ k → seqGet (seqSet n k v) j = seqGet n j := by
  intro k
  induction k with
  | zero =>
    intro j n v h
    cases j with
    | zero => exact absurd rfl h
    | succ j => show seqGet (seqTl (seqPr v (seqTl n))) j = seqGet (seqTl n) j; rw [seqTl_pr]
  | succ k ih =>
    intro j n v h
    cases j with
    | zero => exact seqHd_pr _ _
    | succ j =>
      show seqGet (seqTl (seqPr (seqHd n) (seqSet (seqTl n) k v))) j = seqGet (seqTl n) j
      rw [seqTl_pr]
      exact ih j _ v (fun e => h (by rw [e]))

theorem seqGet_zero : ∀ k : Nat, seqGet 0 k = 0 := by
  intro k
  induction k with
  | zero => exact seqHd_zero
  | succ k ih => show seqGet (seqTl 0) k = 0; rw [seqTl_zero]; exact ih

theorem seq_ext : ∀ (m n k : Nat), n ≤ m → k ≤ m → (∀ j, seqGet n j = seqGet k j) → n = k := by
  intro m
  induction m with
  | zero => intro n k h1 h2 _; omega
  | succ m ih =>
    intro n k h1 h2 h
    have hh : seqHd n = seqHd k := h 0
    have ht : seqTl n = seqTl k := by
      refine ih _ _ ?_ ?_ (fun j => h (j+1))
      · cases n with
        | zero => rw [seqTl_zero]; omega
        | succ n => have := seqTl_lt (n+1) (Nat.succ_pos n); omega
      · cases k with
        | zero => rw [seqTl_zero]; omega
        | succ k => have := seqTl_lt (k+1) (Nat.succ_pos k); omega
    rw [← seq_eta n, ← seq_eta k, hh, ht]

/- over the whole numbers -/
noncomputable def seqZig (z : Int) : Nat := if 0 ≤ z then 2 * z.toNat else 2 * (-z).toNat - 1
noncomputable def seqZag (n : Nat) : Int := if n % 2 = 0 then ((n / 2 : Nat) : Int) else - (((n + 1) / 2 : Nat) : Int)
theorem seqZag_zig (z : Int) : seqZag (seqZig z) = z := by
  unfold seqZig seqZag
  by_cases h : 0 ≤ z
  · rw [if_pos h]
    have h1 : 2 * z.toNat % 2 = 0 := by omega
    rw [if_pos h1]
    omega
  · rw [if_neg h]
    have h1 : ¬ (2 * (-z).toNat - 1) % 2 = 0 := by omega
    rw [if_neg h1]
    omega
noncomputable def gX (X k : Int) : Int := if k < 0 then 0 else seqZag (seqGet X.toNat k.toNat)
noncomputable def uX (X k v : Int) : Int := if k < 0 then X else ((seqSet X.toNat k.toNat (seqZig v) : Nat) : Int)

theorem seqZag_inj (a b : Nat) (h : seqZag a = seqZag b) : a = b := by
  unfold seqZag at h
  by_cases ha : a % 2 = 0
  · rw [if_pos ha] at h
    by_cases hb : b % 2 = 0
    · rw [if_pos hb] at h; omega
    · rw [if_neg hb] at h; omega
  · rw [if_neg ha] at h
    by_cases hb : b % 2 = 0
    · rw [if_pos hb] at h; omega
    · rw [if_neg hb] at h; omega
theorem uX_nn (X k v : Int) (h : 0 ≤ X) : 0 ≤ uX X k v := by
  unfold uX
  by_cases hk : k < 0
  · rw [if_pos hk]; exact h
  · rw [if_neg hk]; exact Int.ofNat_nonneg _
theorem uX_nat (X k v : Int) (h : 0 ≤ k) : (uX X k v).toNat = seqSet X.toNat k.toNat (seqZig v) := by
  unfold uX
  rw [if_neg (by omega)]
  rfl
theorem gX_uX (X k v : Int) (h : 0 ≤ k) : gX (uX X k v) k = v := by
  unfold gX
  rw [if_neg (by omega), uX_nat X k v h, seqGet_set, seqZag_zig]
theorem gX_ne (X k j v : Int) (h : 0 ≤ k) (e : j ≠ k) : gX (uX X k v) j = gX X j := by
  unfold gX
  by_cases hj : j < 0
  · rw [if_pos hj, if_pos hj]
  · rw [if_neg hj, if_neg hj, uX_nat X k v h, seqGet_ne _ _ _ _ (by omega)]
theorem gX_zero (k : Int) : gX 0 k = 0 := by
  unfold gX
  by_cases hk : k < 0
  · rw [if_pos hk]
  · rw [if_neg hk]
    show seqZag (seqGet 0 _) = 0
    rw [seqGet_zero]; decide
theorem gX_ext (X Y : Int) (hX : 0 ≤ X) (hY : 0 ≤ Y) (h : ∀ k, 0 ≤ k → gX X k = gX Y k) : X = Y := by
  have e : X.toNat = Y.toNat := by
    refine seq_ext (X.toNat + Y.toNat) _ _ (by omega) (by omega) (fun j => ?_)
    have hj := h (j : Int) (Int.ofNat_nonneg j)
    unfold gX at hj
    rw [if_neg (by omega), if_neg (by omega)] at hj
    have hn : (j : Int).toNat = j := rfl
    rw [hn] at hj
    exact seqZag_inj _ _ hj
  omega
theorem uX_same (X k : Int) (hX : 0 ≤ X) (hk : 0 ≤ k) : uX X k (gX X k) = X := by
  refine gX_ext _ _ (uX_nn _ _ _ hX) hX (fun j _ => ?_)
  by_cases e : j = k
  · rw [e, gX_uX _ _ _ hk]
  · rw [gX_ne _ _ _ _ hk e]
theorem uX_uX (X k v w : Int) (hX : 0 ≤ X) (hk : 0 ≤ k) : uX (uX X k v) k w = uX X k w := by
  refine gX_ext _ _ (uX_nn _ _ _ (uX_nn _ _ _ hX)) (uX_nn _ _ _ hX) (fun j _ => ?_)
  by_cases e : j = k
  · rw [e, gX_uX _ _ _ hk, gX_uX _ _ _ hk]
  · rw [gX_ne _ _ _ _ hk e, gX_ne _ _ _ _ hk e, gX_ne _ _ _ _ hk e]
theorem uX_comm (X k j v w : Int) (hX : 0 ≤ X) (hk : 0 ≤ k) (hj : 0 ≤ j) (e : j ≠ k) : uX (uX X k v) j w = uX (uX X j w) k v := by
  refine gX_ext _ _ (uX_nn _ _ _ (uX_nn _ _ _ hX)) (uX_nn _ _ _ (uX_nn _ _ _ hX)) (fun i _ => ?_)
  by_cases h1 : i = j
  · rw [h1, gX_uX _ _ _ hj, gX_ne _ _ _ _ hk e, gX_uX _ _ _ hj]
  · by_cases h2 : i = k
    · rw [h2, gX_ne _ _ _ _ hj (fun x => e x.symm), gX_uX _ _ _ hk, gX_uX _ _ _ hk]
    · rw [gX_ne _ _ _ _ hj h1, gX_ne _ _ _ _ hk h2, gX_ne _ _ _ _ hk h2, gX_ne _ _ _ _ hj h1]
