/-! ===== lemmas of the rules' proofs ===== -/
theorem w223_cong {X k k' Y : Int} (e : k = k') (h : w223 X k Y) : w223 X k' Y := e ▸ h
theorem w223_step {X0 k X Y : Int} (h : w223 X0 k X) (g : w202 X k 0 Y) : w223 X0 (k + 1) Y := by
  obtain ⟨a, b, c, d⟩ := h
  obtain ⟨e, f, g⟩ := g
  refine ⟨by omega, fun _ => f, fun j p q => ?_, fun j p => ?_⟩
  · rw [e]
    by_cases hj : j = k
    · rw [hj, gX_uX _ _ _ a]
    · rw [gX_ne _ _ _ _ a hj]
      exact c j p (by omega)
  · rw [e, gX_ne _ _ _ _ a (by omega)]
    exact d j (by omega)
theorem w223_0 (X : Int) : w223 X 0 X := ⟨by omega, fun h => h, fun j a b => by omega, fun _ _ => rfl⟩
theorem uX_uX' (X k v w : Int) (hX : 0 ≤ X) : uX (uX X k v) k w = uX X k w := by
  by_cases hk : 0 ≤ k
  · exact uX_uX X k v w hX hk
  · have q : k < 0 := by omega
    unfold uX
    simp [q]
theorem w224_set {R k v Y : Int} (h : w224 R) (g : w202 R k v Y) (a : 0 ≤ k) (b : k ≤ 7) : w224 Y := by
  refine ⟨g.2.1, fun j hj => ?_⟩
  rw [g.1, gX_ne _ _ _ _ a (by omega)]
  exact h.2 j hj
theorem w222_set {S B k v S' B' : Int} (h : w222 S B) (g : w202 B k 1 B') (g' : w202 S k v S') (a : 0 ≤ k) (b : k ≤ 31) : w222 S' B' := by
  obtain ⟨⟨p, q⟩, r, s, t⟩ := h
  refine ⟨⟨g'.2.1, g.2.1⟩, fun j hj => ?_, fun j hj => ?_, fun j hj hk e => ?_⟩
  · rw [g'.1, gX_ne _ _ _ _ a (by omega)]
    exact r j hj
  · rw [g.1, gX_ne _ _ _ _ a (by omega)]
    exact s j hj
  · by_cases hjk : j = k
    · rw [g.1, hjk, gX_uX _ _ _ a] at e
      omega
    · rw [g'.1, gX_ne _ _ _ _ a hjk]
      rw [g.1, gX_ne _ _ _ _ a hjk] at e
      exact t j hj hk e
