/-! ===== lemmas of the rules' proofs ===== -/
theorem w223_cong {X k k' Y : Int} (e : k = k') (h : w223 X k Y) : w223 X k' Y := e ▸ h
theorem w223_step {X0 k X Y : Int} (h : w223 X0 k X) (g : w202 X k 0 Y) : w223 X0 (k + 1) Y := by
  obtain ⟨a, b, c, d⟩ := h
  obtain ⟨e, f, g⟩ := g
  refine ⟨by omega, fun _ => f, fun j p q => ?_, fun j p => ?_⟩
  · rw [e]
    by_cases hj : j = k
    · rw [hj, gX_uX _ _ _ a]
    · rw [gX_ne _ _ _ _ a hj]
      exact c j p (by omega)
  · rw [e, gX_ne _ _ _ _ a (by omega)]
    exact d j (by omega)
theorem w223_0 (X : Int) : w223 X 0 X := ⟨by omega, fun h => h, fun j a b => by omega, fun _ _ => rfl⟩
theorem uX_uX' (X k v w : Int) (hX : 0 ≤ X) : uX (uX X k v) k w = uX X k w := by
  by_cases hk : 0 ≤ k
  · exact uX_uX X k v w hX hk
  · have q : k < 0 := by omega
    unfold uX
    simp [q]
theorem w224_set {R k v Y : Int} (h : w224 R) (g : w202 R k v Y) (a : 0 ≤ k) (b : k ≤ 7) : w224 Y := by
  refine ⟨g.2.1, fun j hj => ?_⟩
  rw [g.1, gX_ne _ _ _ _ a (by omega)]
  exact h.2 j hj
theorem w222_set {S B k v S' B' : Int} (h : w222 S B) (g : w202 B k 1 B') (g' : w202 S k v S') (a : 0 ≤ k) (b : k ≤ 31) : w222 S' B' := by
  obtain ⟨⟨p, q⟩, r, s, t⟩ := h
  refine ⟨⟨g'.2.1, g.2.1⟩, fun j hj => ?_, fun j hj => ?_, fun j hj hk e => ?_⟩
  · rw [g'.1, gX_ne _ _ _ _ a (by omega)]
    exact r j hj
  · rw [g.1, gX_ne _ _ _ _ a (by omega)]
    exact s j hj
  · by_cases hjk : j = k
    · rw [g.1, hjk, gX_uX _ _ _ a] at e
      omega
    · rw [g'.1, gX_ne _ _ _ _ a hjk]
      rw [g.1, gX_ne _ _ _ _ a hjk] at e
      exact t j hj hk e
theorem in_bit (m l : Nat) (hm : m < 16) (hl : l < 4) : valZ 7 (valZ 11 (m : Int) (l : Int)) 1 = bt m l := by
  have q : ∀ m : Fin 16, ∀ l : Fin 4, valZ 7 (valZ 11 ((m.val : Nat) : Int) ((l.val : Nat) : Int)) 1 = bt m.val l.val := by decide +kernel
  exact q ⟨m, hm⟩ ⟨l, hl⟩
theorem and_bits : ∀ m : Fin 16, ∀ l : Fin 4, ∃ m' : Fin 16, valZ 7 ((m.val : Nat) : Int) (-(2 ^ l.val) - 1) = ((m'.val : Nat) : Int) ∧ ∀ j : Fin 4, bt m'.val j.val = if j.val = l.val then 0 else bt m.val j.val := by decide +kernel
theorem or_bits : ∀ m : Fin 16, ∀ l : Fin 4, ∃ m' : Fin 16, valZ 8 ((m.val : Nat) : Int) (2 ^ l.val) = ((m'.val : Nat) : Int) ∧ ∀ j : Fin 4, bt m'.val j.val = if j.val = l.val then 1 else bt m.val j.val := by decide +kernel
theorem w230_set {i IN r : Int} {l : Nat} {b : Int} (h : w230 i IN) (hl : l < 4) (hr : ∀ m : Fin 16, i = ((m.val : Nat) : Int) → ∃ m' : Fin 16, r = ((m'.val : Nat) : Int) ∧ ∀ j : Fin 4, bt m'.val j.val = if j.val = l then b else bt m.val j.val) : w230 r (uX IN l b) ∧ w202 IN l b (uX IN l b) := by
  obtain ⟨a, c, m, e, hm, f⟩ := h
  obtain ⟨m', g, k⟩ := hr ⟨m, hm⟩ e
  have nn : 0 ≤ uX IN l b := uX_nn _ _ _ a
  refine ⟨⟨nn, fun j hj => ?_, m'.val, g, m'.isLt, fun j hj => ?_⟩, rfl, nn, a⟩
  · rw [gX_ne _ _ _ _ (by omega) (by omega)]
    exact c j hj
  · have q := k ⟨j, hj⟩
    by_cases e2 : j = l
    · subst e2
      rw [gX_uX _ _ _ (by omega), q]
      simp
    · rw [gX_ne _ _ _ _ (by omega) (by omega), f j hj, q]
      simp [e2]
theorem w230_in {i IN t b : Int} (l : Nat) (h : w230 i IN) (hl : l < 4) (g : t = valZ 11 i l) (g' : b = valZ 7 t 1) : b = gX IN l := by
  obtain ⟨a, c, m, e, hm, f⟩ := h
  rw [g', g, e, in_bit m l hm hl, f l hl]
theorem runL_succ (P n XP fw l V A Xc : Int) (I : Nat) (s : G4) : runL P n XP fw l V A (slL Xc (I + 1)) s = runS P n XP fw l V A (runL P n XP fw l V A (slL Xc I) s) (slotX Xc I) := by
  unfold runL slL
  rw [List.range_succ, List.map_append, List.foldl_append]
  rfl
theorem runS_of {P n XP fw l V A C S B f C' S' B' ok : Int} {q : SLT} (h : gpF P n XP q.1 (q.2.2 - fw) l V A C S B = (C', S', B', ok)) : runS P n XP fw l V A (C, S, B, f) q = (C', S', B', if ok = 1 then f else f + 1) := by
  show (match gpF P n XP q.1 (q.2.2 - fw) l V A C S B with | (C', S', B', ok) => (C', S', B', if ok = 1 then f else f + 1)) = _
  rw [h]
theorem w226_ok {P n XP Xc ns fw l V A IN C0 Q0 B0 f0 i C Q B f pt tk x C' Q' B' : Int} (h : w226 P n XP Xc ns fw l V A IN C0 Q0 B0 f0 i C Q B f) (hp : pt = gX Xc (3 * i)) (ht : tk = gX Xc (2 + 3 * i)) (hx : x = tk - fw) (g : w215 P n XP pt x l V A C Q B C' Q' B' 1) : w226 P n XP Xc ns fw l V A IN C0 Q0 B0 f0 (1 + i) C' Q' B' f := by
  obtain ⟨a, b, c, d, e, I, hI, h⟩ := h
  refine ⟨a, b, c, d, e, I + 1, by omega, ?_⟩
  unfold w215 at g
  rw [runL_succ, h]
  subst hx hp ht hI
  have g2 : gpF P n XP (slotX Xc I).1 ((slotX Xc I).2.2 - fw) l V A C Q B = (C', Q', B', 1) := g
  rw [runS_of g2]
  rfl
theorem w226_no {P n XP Xc ns fw l V A IN C0 Q0 B0 f0 i C Q B f pt tk x C' Q' B' : Int} (h : w226 P n XP Xc ns fw l V A IN C0 Q0 B0 f0 i C Q B f) (hp : pt = gX Xc (3 * i)) (ht : tk = gX Xc (2 + 3 * i)) (hx : x = tk - fw) (g : w215 P n XP pt x l V A C Q B C' Q' B' 0) : w226 P n XP Xc ns fw l V A IN C0 Q0 B0 f0 (1 + i) C' Q' B' (1 + f) := by
  obtain ⟨a, b, c, d, e, I, hI, h⟩ := h
  refine ⟨a, b, c, d, e, I + 1, by omega, ?_⟩
  unfold w215 at g
  rw [runL_succ, h]
  subst hx hp ht hI
  have g2 : gpF P n XP (slotX Xc I).1 ((slotX Xc I).2.2 - fw) l V A C Q B = (C', Q', B', 0) := g
  rw [runS_of g2, Int.add_comm 1 f]
  rfl
theorem mem_insS4 (s q : SLT) : ∀ L : List SLT, q ∈ insS4 s L → q = s ∨ q ∈ L := by
  intro L
  induction L with
  | nil =>
    intro h
    unfold insS4 at h
    exact Or.inl (List.mem_singleton.mp h)
  | cons a r ih =>
    intro h
    unfold insS4 at h
    split at h
    · rcases List.mem_cons.mp h with h | h
      · exact Or.inl h
      · exact Or.inr h
    · rcases List.mem_cons.mp h with h | h
      · exact Or.inr (List.mem_cons.mpr (Or.inl h))
      · rcases ih h with h | h
        · exact Or.inl h
        · exact Or.inr (List.mem_cons.mpr (Or.inr h))
theorem mem_isoF (q : SLT) : ∀ (L acc : List SLT), q ∈ L.foldl (fun l s => insS4 s l) acc → q ∈ acc ∨ q ∈ L := by
  intro L
  induction L with
  | nil => intro acc h; exact Or.inl h
  | cons a r ih =>
    intro acc h
    rcases ih _ h with h | h
    · rcases mem_insS4 a q acc h with h | h
      · exact Or.inr (List.mem_cons.mpr (Or.inl h))
      · exact Or.inl h
    · exact Or.inr (List.mem_cons.mpr (Or.inr h))
theorem w231_slV {ns XS Xc i : Int} (h : w231 ns XS Xc) (a : 0 ≤ i) (b : i < ns) : slV (gX XS (3 * i), gX XS (1 + 3 * i), gX XS (2 + 3 * i)) := by
  obtain ⟨m, e, _, c, _, _⟩ := h
  obtain ⟨I, rfl⟩ := Int.eq_ofNat_of_zero_le a
  exact c (slotX XS I) (List.mem_map.mpr ⟨I, List.mem_range.mpr (by omega), rfl⟩)
theorem w231_slVc {ns XS Xc i : Int} (h : w231 ns XS Xc) (a : 0 ≤ i) (b : i < ns) : slV (gX Xc (3 * i), gX Xc (1 + 3 * i), gX Xc (2 + 3 * i)) := by
  obtain ⟨m, e, _, c, _, d⟩ := h
  obtain ⟨I, rfl⟩ := Int.eq_ofNat_of_zero_le a
  have q : slotX Xc I ∈ slL Xc m := List.mem_map.mpr ⟨I, List.mem_range.mpr (by omega), rfl⟩
  rw [d] at q
  rcases mem_isoF _ _ _ q with q | q
  · cases q
  · exact c _ q
theorem w231_t {ns XS Xc i v : Int} (h : w231 ns XS Xc) (g : w201 Xc (2 + 3 * i) v) (a : 0 ≤ i) (b : i < ns) : 1 ≤ v ∧ v ≤ 40 := by
  have q := w231_slVc h a b
  unfold w201 at g
  simp only [slV] at q
  omega
theorem w231_tm {ns XS Xc i v : Int} (h : w231 ns XS Xc) (g : w201 XS (2 + 3 * i) v) (a : 0 ≤ i) (b : i < ns) : 1 ≤ v ∧ v ≤ 40 := by
  have q := w231_slV h a b
  unfold w201 at g
  simp only [slV] at q
  omega
theorem w231_pm {ns XS Xc i v : Int} (h : w231 ns XS Xc) (g : w201 XS (3 * i) v) (a : 0 ≤ i) (b : i < ns) : 0 ≤ v ∧ v ≤ 5 := by
  have q := w231_slV h a b
  unfold w201 at g
  simp only [slV] at q
  omega
