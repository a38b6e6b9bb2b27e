/-! ===== the flight: a part's run, the slots ===== -/
section XRUN
variable {P n fr to l V A : Int}
theorem goRun_s (k : Nat) (C S B a : Int) : gpRun P n fr to l V A (k + 1) (C, S, B, a) = if fr ≤ a ∧ a < to ∧ a < n then (match doF P a C l V A S B with
    | (C', S', B', f, a') => if f = 1 then gpRun P n fr to l V A k (C', S', B', a') else (C, S, B, 0)) else (C, S, B, 1) := rfl
theorem goRun_out {C S B a : Int} (h : ¬ (fr ≤ a ∧ a < to ∧ a < n)) (k : Nat) : gpRun P n fr to l V A k (C, S, B, a) = (C, S, B, 1) := by
  cases k with
  | zero => show (C, S, B, if fr ≤ a ∧ a < to ∧ a < n then (0 : Int) else 1) = _; rw [if_neg h]
  | succ k => rw [goRun_s, if_neg h]
theorem goRun_N : ∀ (T K : Nat) {s s' : G4}, gpN P n fr to l V A T s = some s' → gpRun P n fr to l V A (T + K) s = gpRun P n fr to l V A K s'
  | 0, K, s, s', h => by
    cases h
    rw [Nat.zero_add]
  | T + 1, K, s, s', h => by
    unfold gpN at h
    split at h
    · rename_i C S B a hk
      split at h
      · rename_i hin
        split at h
        rename_i C' S' B' f a' hd
        split at h
        · rename_i hf
          cases h
          rw [show T + 1 + K = T + (K + 1) by omega, goRun_N T (K + 1) hk, goRun_s, if_pos hin, hd]
          show (if f = 1 then _ else _) = _
          rw [if_pos hf]
        · cases h
      · cases h
    · cases h
variable {XP pt tk C0 S0 B0 t C Q B a C2 Q2 B2 a2 : Int}
theorem go_end (h : w214 P n XP pt fr to l V A C0 S0 B0 t C Q B a) (ho : ¬ (fr ≤ a ∧ a < to ∧ a < n)) (ht : t ≤ tk) : w215 P n XP pt tk l V A C0 S0 B0 C Q B 1 := by
  obtain ⟨e1, e2, T, e3, h⟩ := h
  show gpRun P n (gX XP (2 * pt)) (gX XP (1 + 2 * pt)) l V A tk.toNat (C0, S0, B0, gX XP (2 * pt)) = _
  rw [← e1, ← e2, show tk.toNat = T + (tk.toNat - T) by omega, goRun_N T _ h, goRun_out ho]
theorem go_fail (h : w214 P n XP pt fr to l V A C0 S0 B0 t C Q B a) (hd : w210 P a C l V A Q B C2 Q2 B2 0 a2) (hi : fr ≤ a ∧ a < to ∧ a < n) (ht : t < tk) : w215 P n XP pt tk l V A C0 S0 B0 C Q B 0 := by
  obtain ⟨e1, e2, T, e3, h⟩ := h
  show gpRun P n (gX XP (2 * pt)) (gX XP (1 + 2 * pt)) l V A tk.toNat (C0, S0, B0, gX XP (2 * pt)) = _
  have hd' : doF P a C l V A Q B = (C2, Q2, B2, 0, a2) := hd
  rw [← e1, ← e2, show tk.toNat = T + ((tk.toNat - T - 1) + 1) by omega, goRun_N T _ h, goRun_s, if_pos hi, hd']
  show (if (0 : Int) = 1 then _ else _) = _
  rw [if_neg (by decide)]
theorem go_late (h : w214 P n XP pt fr to l V A C0 S0 B0 t C Q B a) (hi : fr ≤ a ∧ a < to ∧ a < n) (ht : t = tk) : w215 P n XP pt tk l V A C0 S0 B0 C Q B 0 := by
  obtain ⟨e1, e2, T, e3, h⟩ := h
  show gpRun P n (gX XP (2 * pt)) (gX XP (1 + 2 * pt)) l V A tk.toNat (C0, S0, B0, gX XP (2 * pt)) = _
  rw [← e1, ← e2, show tk.toNat = T + 0 by omega, goRun_N T _ h]
  show (C, Q, B, if fr ≤ a ∧ a < to ∧ a < n then (0 : Int) else 1) = _
  rw [if_pos hi]
theorem go_step (h : w214 P n XP pt fr to l V A C0 S0 B0 t C Q B a) (hd : w210 P a C l V A Q B C2 Q2 B2 1 a2) (hi : fr ≤ a ∧ a < to ∧ a < n) : w214 P n XP pt fr to l V A C0 S0 B0 (1 + t) C2 Q2 B2 a2 := by
  obtain ⟨e1, e2, T, e3, h⟩ := h
  refine ⟨e1, e2, T + 1, by omega, ?_⟩
  have hd' : doF P a C l V A Q B = (C2, Q2, B2, 1, a2) := hd
  unfold gpN
  rw [h]
  show (if fr ≤ a ∧ a < to ∧ a < n then _ else _) = _
  rw [if_pos hi, hd']
  rfl
theorem go_0 (h1 : w201 XP (2 * pt) fr) (h2 : w201 XP (1 + 2 * pt) to) : w214 P n XP pt fr to l V A C0 S0 B0 0 C0 S0 B0 fr := ⟨h1, h2, 0, rfl, rfl⟩
/-- what fails is a division -/
theorem doF_f : (doF P a C l V A Q B).2.2.2.1 = if gX P (4 * a) = 4 ∧ gX C (12 * l + gX P (3 + 4 * a)) = 0 then 0 else 1 := by
  unfold doF
  try dsimp only
  by_cases h0 : gX P (4 * a) = 0
  · simp [h0]
  by_cases h1 : gX P (4 * a) = 1
  · simp [h1]
  by_cases h2 : gX P (4 * a) = 2
  · simp [h2]
  by_cases h3 : gX P (4 * a) = 3
  · simp [h3]
  by_cases h4 : gX P (4 * a) = 4
  · by_cases hz : gX C (12 * l + gX P (3 + 4 * a)) = 0 <;> simp [h4, hz]
  by_cases h5 : gX P (4 * a) = 5
  · simp [h5]
  by_cases h6 : gX P (4 * a) = 6
  · simp [h6]
  by_cases h7 : gX P (4 * a) = 7
  · simp [h7]
  by_cases h8 : gX P (4 * a) = 8
  · simp [h8]
  by_cases h9 : gX P (4 * a) = 9
  · by_cases hz : gX A (1 + 3 * l) = 0 <;> simp [h9, hz]
  simp [h0, h1, h2, h3, h4, h5, h6, h7, h8, h9]
theorem doF_0 (h : doF P a C l V A Q B = (C2, Q2, B2, 0, a2)) : gX P (4 * a) = 4 := by
  have q := doF_f (P := P) (l := l) (V := V) (A := A) (C := C) (Q := Q) (B := B) (a := a)
  rw [h] at q
  by_cases h4 : gX P (4 * a) = 4 ∧ gX C (12 * l + gX P (3 + 4 * a)) = 0
  · exact h4.1
  · rw [if_neg h4] at q
    exact absurd q (by show ¬ ((0 : Int) = 1); decide)
theorem doF_1 (h : doF P a C l V A Q B = (C2, Q2, B2, 1, a2)) (h4 : gX P (4 * a) = 4) : a2 = 1 + a := by
  unfold doF at h
  simp only [h4] at h
  simp at h
  split at h <;> simp at h
  omega
end XRUN
theorem or16 : ∀ (m : Fin 16) (l : Fin 4), valZ 8 (m.val : Nat) ((2 ^ l.val : Nat) : Int) = ((m.val ||| 2 ^ l.val : Nat) : Int) := by decide +kernel
theorem or256 : ∀ (m : Fin 256) (b : Fin 8), valZ 8 (m.val : Nat) (valZ 10 1 (b.val : Nat)) = ((m.val ||| 2 ^ b.val : Nat) : Int) := by decide +kernel
theorem bit16 : ∀ (m : Fin 16) (l : Fin 4), valZ 7 (valZ 11 (m.val : Nat) (l.val : Nat)) 1 = bt m.val l.val := by decide +kernel
theorem bit256 : ∀ (m : Fin 256) (l : Fin 8), valZ 7 (valZ 11 (m.val : Nat) (l.val : Nat)) 1 = bt m.val l.val := by decide +kernel
theorem orB : ∀ (m : Fin 256) (l b : Fin 8), bt (m.val ||| 2 ^ l.val) b.val = if b.val = l.val then 1 else bt m.val b.val := by decide +kernel
theorem clr16 : ∀ (m : Fin 16) (l : Fin 4), valZ 7 (m.val : Nat) (-1 - (2 ^ l.val : Nat)) = ((m.val &&& (15 - 2 ^ l.val) : Nat) : Int) := by decide +kernel
theorem clrB : ∀ (m : Fin 16) (l b : Fin 4), bt (m.val &&& (15 - 2 ^ l.val)) b.val = if b.val = l.val then 0 else bt m.val b.val := by decide +kernel
