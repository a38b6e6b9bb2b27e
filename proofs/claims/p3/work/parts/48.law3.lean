/-! ===== the law's loop by the quicker runner ===== -/
noncomputable def enLaw2F (N : Nat) (env : List Ct) (hs : List LH) (fuel : Nat) : Bool := goF (some (sL 0, kL (.negSucc 5), zs6)) false 13 4 tbLaw env (hs.map nextPE) (sL 0 :: kL (.negSucc 5) :: zs6) none (finL (sL 0 :: kL (.negSucc 5) :: zs6)) (lawH hs) fuel true 0 [] [(0, .inr (.inl (some sIdx)))] [] [] 1 (tbOf [(0, .ofNat 0, .ofNat N)]) [] 0 0
noncomputable def hdLaw2F (env : List Ct) (hs : List LH) (fuel : Nat) (h : LH) : Bool := bif okLH h then runPtF true false 13 4 tbLaw env (hs.map nextPE) finL (lawH hs) fuel (headPE h) else false
theorem en2F {N : Nat} {env : List Ct} {hs : List LH} {fuel : Nat} (h : enLaw2F N env hs fuel = true) : enLaw2 N env hs fuel = true := by
  unfold enLaw2F at h
  rw [goF_eq] at h
  exact h
theorem hd2F {env : List Ct} {hs : List LH} {fuel : Nat} {q : LH} (h : hdLaw2F env hs fuel q = true) : hdLaw2 env hs fuel q = true := by
  unfold hdLaw2F at h
  rw [runPtF_eq] at h
  exact h
