/-! ===== a fresh room, a fresh reference; the law on one call ===== -/
def dSC : DecidableEq SC := @instDecidableEqSum _ _ inferInstance (@instDecidableEqProd _ _ inferInstance (@instDecidableEqSum _ _ inferInstance (@instDecidableEqSum _ _ inferInstance inferInstance)))
def dSH : DecidableEq SH := @instDecidableEqList _ dSC
def dRs : DecidableEq (Option Res) := haveI := dSH; inferInstance
theorem eqR {a b : Option Res} (h : @decide (a = b) (dRs a b) = true) : a = b := @of_decide_eq_true _ (dRs a b) h
theorem eqH {a b : SH} (h : @decide (a = b) (dSH a b) = true) : a = b := @of_decide_eq_true _ (dSH a b) h
def hX0 : SH := [.inl (0, [.ref 1, .ref 41, .ref 57, .null, .ref 60, .ref 61]),
  .inl (1, [.int 3, .ref 2, .ref 3, .ref 9, .ref 10, .int 3, .int 5, .ref 11, .int 100, .int 0, .ref 16, .ref 17, .ref 18, .ref 22, .int 0, .ref 28, .ref 29, .ref 30]),
  .inr (4, .inr (.inr [some 31, some 36])),
  .inl (3, [.ref 4, .ref 5, .int 0, .ref 6, .ref 7, .ref 8]),
  .inr (0, .inl (List.replicate 6 0)),
  .inr (0, .inl (List.replicate 6 0)),
  .inr (0, .inl (List.replicate 8 0)),
  .inr (0, .inl (List.replicate 8 0)),
  .inr (0, .inl (List.replicate 8 0)),
  .inr (0, .inl (List.replicate 8 0)),
  .inr (0, .inl (List.replicate 8 0)),
  .inl (4, [.int 0, .ref 12, .ref 13, .ref 14, .ref 15]),
  .inr (0, .inl (List.replicate 6 0)),
  .inr (0, .inl (List.replicate 6 0)),
  .inr (0, .inl (List.replicate 6 0)),
  .inr (0, .inl (List.replicate 6 0)),
  .inr (0, .inl [(-100), (-100), (-100), (-100)]),
  .inr (0, .inl [100, 100, 100, 100]),
  .inl (5, [.int 0, .ref 19, .int 1, .int 0, .int 0, .ref 20, .ref 21]),
  .inr (2, .inl (List.replicate 60 0)),
  .inr (0, .inl (List.replicate 60 0)),
  .inr (1, .inr (.inl (List.replicate 60 0))),
  .inl (6, [.int 0, .ref 23, .ref 24, .ref 25, .ref 26, .ref 27]),
  .inr (0, .inl (List.replicate 8 0)),
  .inr (0, .inl (List.replicate 8 0)),
  .inr (0, .inl (List.replicate 8 0)),
  .inr (0, .inl (List.replicate 8 0)),
  .inr (0, .inl (List.replicate 8 0)),
  .inr (0, .inl (List.replicate 10 0)),
  .inr (0, .inl (List.replicate 4 0)),
  .inr (0, .inl (List.replicate 4 0)),
  .inl (2, [.int 0, .ref 32, .ref 33, .ref 34, .ref 35]),
  .inr (0, .inl (List.replicate 60 0)),
  .inr (0, .inl (List.replicate 60 0)),
  .inr (0, .inl (List.replicate 60 0)),
  .inr (0, .inl (List.replicate 60 0)),
  .inl (2, [.int 0, .ref 37, .ref 38, .ref 39, .ref 40]),
  .inr (0, .inl (List.replicate 60 0)),
  .inr (0, .inl (List.replicate 60 0)),
  .inr (0, .inl (List.replicate 60 0)),
  .inr (0, .inl (List.replicate 60 0)),
  .inl (7, [.ref 42, .int 7, .ref 43, .ref 47, .ref 48, .int 0, .int 0, .int 0, .int 0, .int 0, .int 0, .int 0, .int 0, .int 0, .int 0, .int 0, .int (-1)]),
  .inr (5, .inr (.inr [some 49, some 51, some 53, some 55])),
  .inl (9, [.ref 44, .ref 45, .ref 46, .int 0]),
  .inr (0, .inl (List.replicate 32 0)),
  .inr (0, .inl (List.replicate 8 0)),
  .inr (0, .inl (List.replicate 8 0)),
  .inr (0, .inl (List.replicate 2 0)),
  .inr (0, .inl (List.replicate 6 0)),
  .inl (8, [.ref 50, .int 0, .int 0, .int 0, .int 0]),
  .inr (0, .inl (List.replicate 12 0)),
  .inl (8, [.ref 52, .int 0, .int 0, .int 0, .int 0]),
  .inr (0, .inl (List.replicate 12 0)),
  .inl (8, [.ref 54, .int 0, .int 0, .int 0, .int 0]),
  .inr (0, .inl (List.replicate 12 0)),
  .inl (8, [.ref 56, .int 0, .int 0, .int 0, .int 0]),
  .inr (0, .inl (List.replicate 12 0)),
  .inl (10, [.ref 1, .ref 58, .ref 59]),
  .inr (1, .inr (.inl (List.replicate 6 0))),
  .inr (1, .inr (.inl (List.replicate 4 0))),
  .inr (6, .inr (.inr [none, none])),
  .inr (7, .inr (.inr [none, none]))]
def hX : SH := [.inl (0, [.ref 1, .ref 41, .ref 57, .null, .ref 60, .ref 61]),
  .inl (1, [.int 3, .ref 2, .ref 13, .ref 19, .ref 20, .int 3, .int 5, .ref 21, .int 100, .int 0, .ref 26, .ref 27, .ref 28, .ref 32, .int 0, .ref 38, .ref 39, .ref 40]),
  .inr (4, .inr (.inr [some 3, some 8])),
  .inl (2, [.int 0, .ref 4, .ref 5, .ref 6, .ref 7]),
  .inr (0, .inl (List.replicate 60 0)),
  .inr (0, .inl (List.replicate 60 0)),
  .inr (0, .inl (List.replicate 60 0)),
  .inr (0, .inl (List.replicate 60 0)),
  .inl (2, [.int 0, .ref 9, .ref 10, .ref 11, .ref 12]),
  .inr (0, .inl (List.replicate 60 0)),
  .inr (0, .inl (List.replicate 60 0)),
  .inr (0, .inl (List.replicate 60 0)),
  .inr (0, .inl (List.replicate 60 0)),
  .inl (3, [.ref 14, .ref 15, .int 0, .ref 16, .ref 17, .ref 18]),
  .inr (0, .inl (List.replicate 6 0)),
  .inr (0, .inl (List.replicate 6 0)),
  .inr (0, .inl (List.replicate 8 0)),
  .inr (0, .inl (List.replicate 8 0)),
  .inr (0, .inl (List.replicate 8 0)),
  .inr (0, .inl (List.replicate 8 0)),
  .inr (0, .inl (List.replicate 8 0)),
  .inl (4, [.int 0, .ref 22, .ref 23, .ref 24, .ref 25]),
  .inr (0, .inl (List.replicate 6 0)),
  .inr (0, .inl (List.replicate 6 0)),
  .inr (0, .inl (List.replicate 6 0)),
  .inr (0, .inl (List.replicate 6 0)),
  .inr (0, .inl [(-100), (-100), (-100), (-100)]),
  .inr (0, .inl [100, 100, 100, 100]),
  .inl (5, [.int 0, .ref 29, .int 1, .int 0, .int 0, .ref 30, .ref 31]),
  .inr (2, .inl (List.replicate 60 0)),
  .inr (0, .inl (List.replicate 60 0)),
  .inr (1, .inr (.inl (List.replicate 60 0))),
  .inl (6, [.int 0, .ref 33, .ref 34, .ref 35, .ref 36, .ref 37]),
  .inr (0, .inl (List.replicate 8 0)),
  .inr (0, .inl (List.replicate 8 0)),
  .inr (0, .inl (List.replicate 8 0)),
  .inr (0, .inl (List.replicate 8 0)),
  .inr (0, .inl (List.replicate 8 0)),
  .inr (0, .inl (List.replicate 10 0)),
  .inr (0, .inl (List.replicate 4 0)),
  .inr (0, .inl (List.replicate 4 0)),
  .inl (7, [.ref 42, .int 7, .ref 51, .ref 55, .ref 56, .int 0, .int 0, .int 0, .int 0, .int 0, .int 0, .int 0, .int 0, .int 0, .int 0, .int 0, .int (-1)]),
  .inr (5, .inr (.inr [some 43, some 45, some 47, some 49])),
  .inl (8, [.ref 44, .int 0, .int 0, .int 0, .int 0]),
  .inr (0, .inl (List.replicate 12 0)),
  .inl (8, [.ref 46, .int 0, .int 0, .int 0, .int 0]),
  .inr (0, .inl (List.replicate 12 0)),
  .inl (8, [.ref 48, .int 0, .int 0, .int 0, .int 0]),
  .inr (0, .inl (List.replicate 12 0)),
  .inl (8, [.ref 50, .int 0, .int 0, .int 0, .int 0]),
  .inr (0, .inl (List.replicate 12 0)),
  .inl (9, [.ref 52, .ref 53, .ref 54, .int 0]),
  .inr (0, .inl (List.replicate 32 0)),
  .inr (0, .inl (List.replicate 8 0)),
  .inr (0, .inl (List.replicate 8 0)),
  .inr (0, .inl (List.replicate 2 0)),
  .inr (0, .inl (List.replicate 6 0)),
  .inl (10, [.ref 1, .ref 58, .ref 59]),
  .inr (1, .inr (.inl (List.replicate 6 0))),
  .inr (1, .inr (.inl (List.replicate 4 0))),
  .inr (6, .inr (.inr [none, none])),
  .inr (7, .inr (.inr [none, none]))]
def hM : SH := [.inl (12, [.ref 1, .ref 2, .ref 3, .int 0, .ref 4, .ref 5, .int 0, .ref 6, .ref 7, .int 0, .ref 8, .int 0, .ref 9, .ref 10, .ref 11, .ref 12, .int 0, .int 0, .int 0, .ref 13, .int 0, .int 0, .int 0, .ref 14]),
  .inr (0, .inl [3, 0, 0, 0, 0, 0, 0, 0, 3, 5, 0, 0, 0, 0, 0, 0, 0, 100, 0, 0, (-1), 0, 0, 0, 0, 0, 0, 0, 0, 0, 0, 0, 0, 0, 0, 0, 0, 0, 0, 0, 0, 0, 1, 0, 0, 0, 0, 0, 0, 0, 0, 0, 0, 0, 0, 0, 0, 0, 0, 0, 0, 0, 0, 0, 0, 0, 0, 0, 0, 0, 0, 0, 0, 0, 0, 0, 0, 0, 0, 0, 0, 0, 1, 0, 0, 0, 0, 0, 0, 0, 0, 0, 0, 0, 0, 0, 0, 0, 0, 0, 0, 0, 0, 0, 0, 0, 0, 0, 0, 0, 0, 0, 0, 0, 0, 0, 0, 0, 0, 0, 0, 0, 1, 0, 0, 0, 0, 0, 0, 0, 0, 0, 0, 0, 0, 0, 0, 0, 0, 0, 0, 0, 0, 0, 0, 0, 0, 0, 0, 0, 0, 0, 0, 0, 0, 0, 0, 0, 0, 0, 0, 0, 1, 0, 0, 0, 0, 0, 0, 0, 0, 0, 0, 0, 0, 0, 0, 0, 0, 0, 0, 0, 0, 0, 0, 0, 0, 0, 0, 0, 0, 0, 0, 0, 0, 0, 0, 0, 0, 0, 0, 0, 0, 0, 0, 0, 0, 0, 0, 0, 0, 0, 0, 0, 0, 0, 0, 0, 0, 0, 0, 0, 0, 0, 0, 0, 0, 0, 0, 0, 0, 0, 0, 0, 0, 0, 0, 0, 0, 0, 0, 0, 0, 0, 0, 0, 0, 0, 0, 0, 0, 0, 0, 0, 0, 0, 0, 0, 0, 0, 0, 0, 0, 0, 0, 0, 0, 0, 0, 0, 0, 0, 0, 0, 0, 0, 0, 0, 0, 0, 0, 0, 0, 0, 0, 0, 0, 0, 0, 0, 0, 0, 0, 0, 0, 0, 0, 0, 0, 0, 0, 0, 0, 0, 0, 0, 0, 0, 0, 0, 0, 0, 0, 0, 0, 0, 0, 0, 0, 0, 0, 0, 0, 0, 0, 0, 0, 0, 0, 0, 0, 0, 0, 0, 0, 0, 0, 0, 0, 0, 0, 0, 0, 0, 0, 0, 0, 0, 0, 0, 0, 0, 0, 0, 0, 0, 0, 0, 0, 0, 0, 0, 0, 0, 0, 0, 0, 0, 0, 0, 0, 0, 0, 0, 0, 0, 0, 0, 0, 0, 0, 0, 0, 0, 0, 0, 0, 0, 0, 0, 0, 0, 0, 0, 0, 0, 0, 0, 0, 0, 0, 0, 0, 0, 0, 0, 0, 0, 0, 0, 0, 0, 0, 0, 0, 0, 0, 0, 0, 0, 0, 0, 0, 0, 0, 0, 0, 0, 0, 0, 0, 0, 0, 0, 0, 0, 0, 0, 0, 0, 0, 0, 0, 0, 0, 0, 0, 0, 0, 0, 0, 0, 0, 0, 0, 0, 0, 0, 0, 0, 0, 0, 0, 0, 0, 0, 0, 0, 0, 0, 0, 0, 0, 0, 0, 0, 0, 0, 0, 0, 0, 0, 0, 0, 0, 0, 0, 0, 0, 0, 0, 0, 0, 0, 0, 0, 0, 0, 0, 0, 0, 0, 0, 0, 0, 0, 0, 0, 0, 0, 0, 0, 0, 0, 0, 0, 0, 0, 0, 0, 0, 0, 0, 0, 0, 0, 0, 0, 0, 0, 0, 0, 0, 0, 0, 0, 0, 0, 0, 0, 0, 0, 0, 0, 0, 0, 0, 0, 0, 0, 0, 0, 0, 0, 0, 0, 0, 0, 0, 0, 0, 0, 0, 0, 0, 0, 0, 0, 0, 0, 0, 0, 0, 0, 0, 0, 0, 0, 0, 0, 0, 0, 0, 0, 0, 0, 0, 0, 0, 0, 0, 0, 0, 0, 0, 0, 0, 0, 0, 0, 0, 0, 0, 0, 0, 0, 0, 0, 0, 0, 0, 0, 0, 0, 0, 0, 0, 0, 0, 0, 0, 0, 0, 0, 0, 0, 0, 0, 0, 0, 0, 0, 0, 0, 0, 0, 0, 0, 0, 0, 0, 0, 0, 0, 0, 0, 0, 0, 0, 0, 0, 0, 0, 0, 0, 0, 0, 0, 0, 0, 0, 0, 0, 0, 0, 0, 0, 0, 0, 0, 0, 0, 0, 0, 0, 0, 0, 0, 0, 0, 0, 0, 0, 0, 0, 0, 0, 0, 0, 0, 0, 0, 0, 0, 0, 0, 0, 0, 0, 0, 0, 0, 0, 0, 0, 0, 0, 0, 0, 0, 0, 0, 0, 0, 0, 0, 0, 0, 0, 0, 0, 0, 0, 0, 0, 0, 0, 0, 0, 0, 0, 0, 0, 0, 0, 0, 0, 0, 0, 0, 0, 0, 0, 0, 0, 0, 0, 0, 0, 0, 0, 0, 0, 0, 0, 0, 0, 0, 0, 0, 0, 0, 0, 0, 0, 0, 0, 0, 0, 0, 0, 0, 0, 0, 0, 0, 0, 0, 0, 0, 0, 0, 0, 0, (-100), 100, (-100), 100, (-100), 100, (-100), 100, 0, 0, 0, 0, 0, 0, 0, 0, 0, 0, 0, 0, 0, 0, 0, 0, 0, 0, 0, 0, 0, 0, 0, 0, 0, 0, 0, 0, 0, 0, 0, 0, 0, 0, 0, 0, 0, 0, 0, 0, 0, 0, 0, 0, 0, 0, 0, 0, 0, 0, 0, 0, 0, 0, 0, 0, 0, 0, 0, 0, 0, 0, 0, 0, 0, 0, 0, 0, 0, 0, 0, 0, 0, 0, 0, 0, 0, 0, 0, 0, 0, 0, 0, 0, 0, 0, 0, 0, 0, 0, 0, 0, 0, 0, 0, 0, 0, 0, 0, 0, 0, 0, 0, 0, 0, 0, 0, 0, 0, 0, 0, 0, 0, 0, 0, 0, 0, 0]),
  .inr (0, .inl (List.replicate 1820 0)),
  .inr (3, .inl (List.replicate 2 0)),
  .inr (0, .inl (List.replicate 70 0)),
  .inr (0, .inl (List.replicate 70 0)),
  .inr (0, .inl (List.replicate 70 0)),
  .inr (1, .inr (.inl (List.replicate 70 0))),
  .inr (1, .inr (.inl (List.replicate 8 0))),
  .inr (0, .inl (List.replicate 910 0)),
  .inr (0, .inl (List.replicate 910 0)),
  .inr (0, .inl (List.replicate 20 0)),
  .inr (0, .inl (List.replicate 20 0)),
  .inr (0, .inl (List.replicate 910 0)),
  .inr (1, .inr (.inl (List.replicate 4 0)))]
def hN : SH := [.inl (12, [.ref 63, .ref 64, .ref 65, .int 0, .ref 66, .ref 67, .int 0, .ref 68, .ref 69, .int 0, .ref 70, .int 0, .ref 71, .ref 72, .ref 73, .ref 74, .int 0, .int 0, .int 0, .ref 75, .int 0, .int 0, .int 0, .ref 76]),
  .inr (0, .inl [3, 0, 0, 0, 0, 0, 0, 0, 3, 5, 0, 0, 0, 0, 0, 0, 0, 100, 0, 0, (-1), 0, 0, 0, 0, 0, 0, 0, 0, 0, 0, 0, 0, 0, 0, 0, 0, 0, 0, 0, 0, 0, 1, 0, 0, 0, 0, 0, 0, 0, 0, 0, 0, 0, 0, 0, 0, 0, 0, 0, 0, 0, 0, 0, 0, 0, 0, 0, 0, 0, 0, 0, 0, 0, 0, 0, 0, 0, 0, 0, 0, 0, 1, 0, 0, 0, 0, 0, 0, 0, 0, 0, 0, 0, 0, 0, 0, 0, 0, 0, 0, 0, 0, 0, 0, 0, 0, 0, 0, 0, 0, 0, 0, 0, 0, 0, 0, 0, 0, 0, 0, 0, 1, 0, 0, 0, 0, 0, 0, 0, 0, 0, 0, 0, 0, 0, 0, 0, 0, 0, 0, 0, 0, 0, 0, 0, 0, 0, 0, 0, 0, 0, 0, 0, 0, 0, 0, 0, 0, 0, 0, 0, 1, 0, 0, 0, 0, 0, 0, 0, 0, 0, 0, 0, 0, 0, 0, 0, 0, 0, 0, 0, 0, 0, 0, 0, 0, 0, 0, 0, 0, 0, 0, 0, 0, 0, 0, 0, 0, 0, 0, 0, 0, 0, 0, 0, 0, 0, 0, 0, 0, 0, 0, 0, 0, 0, 0, 0, 0, 0, 0, 0, 0, 0, 0, 0, 0, 0, 0, 0, 0, 0, 0, 0, 0, 0, 0, 0, 0, 0, 0, 0, 0, 0, 0, 0, 0, 0, 0, 0, 0, 0, 0, 0, 0, 0, 0, 0, 0, 0, 0, 0, 0, 0, 0, 0, 0, 0, 0, 0, 0, 0, 0, 0, 0, 0, 0, 0, 0, 0, 0, 0, 0, 0, 0, 0, 0, 0, 0, 0, 0, 0, 0, 0, 0, 0, 0, 0, 0, 0, 0, 0, 0, 0, 0, 0, 0, 0, 0, 0, 0, 0, 0, 0, 0, 0, 0, 0, 0, 0, 0, 0, 0, 0, 0, 0, 0, 0, 0, 0, 0, 0, 0, 0, 0, 0, 0, 0, 0, 0, 0, 0, 0, 0, 0, 0, 0, 0, 0, 0, 0, 0, 0, 0, 0, 0, 0, 0, 0, 0, 0, 0, 0, 0, 0, 0, 0, 0, 0, 0, 0, 0, 0, 0, 0, 0, 0, 0, 0, 0, 0, 0, 0, 0, 0, 0, 0, 0, 0, 0, 0, 0, 0, 0, 0, 0, 0, 0, 0, 0, 0, 0, 0, 0, 0, 0, 0, 0, 0, 0, 0, 0, 0, 0, 0, 0, 0, 0, 0, 0, 0, 0, 0, 0, 0, 0, 0, 0, 0, 0, 0, 0, 0, 0, 0, 0, 0, 0, 0, 0, 0, 0, 0, 0, 0, 0, 0, 0, 0, 0, 0, 0, 0, 0, 0, 0, 0, 0, 0, 0, 0, 0, 0, 0, 0, 0, 0, 0, 0, 0, 0, 0, 0, 0, 0, 0, 0, 0, 0, 0, 0, 0, 0, 0, 0, 0, 0, 0, 0, 0, 0, 0, 0, 0, 0, 0, 0, 0, 0, 0, 0, 0, 0, 0, 0, 0, 0, 0, 0, 0, 0, 0, 0, 0, 0, 0, 0, 0, 0, 0, 0, 0, 0, 0, 0, 0, 0, 0, 0, 0, 0, 0, 0, 0, 0, 0, 0, 0, 0, 0, 0, 0, 0, 0, 0, 0, 0, 0, 0, 0, 0, 0, 0, 0, 0, 0, 0, 0, 0, 0, 0, 0, 0, 0, 0, 0, 0, 0, 0, 0, 0, 0, 0, 0, 0, 0, 0, 0, 0, 0, 0, 0, 0, 0, 0, 0, 0, 0, 0, 0, 0, 0, 0, 0, 0, 0, 0, 0, 0, 0, 0, 0, 0, 0, 0, 0, 0, 0, 0, 0, 0, 0, 0, 0, 0, 0, 0, 0, 0, 0, 0, 0, 0, 0, 0, 0, 0, 0, 0, 0, 0, 0, 0, 0, 0, 0, 0, 0, 0, 0, 0, 0, 0, 0, 0, 0, 0, 0, 0, 0, 0, 0, 0, 0, 0, 0, 0, 0, 0, 0, 0, 0, 0, 0, 0, 0, 0, 0, 0, 0, 0, 0, 0, 0, 0, 0, 0, 0, 0, 0, 0, 0, 0, 0, 0, 0, 0, 0, 0, 0, 0, 0, 0, 0, 0, 0, 0, 0, 0, 0, 0, 0, 0, 0, 0, 0, 0, 0, 0, 0, 0, 0, 0, 0, 0, 0, 0, 0, 0, 0, 0, 0, 0, 0, 0, 0, 0, 0, 0, 0, 0, 0, 0, 0, 0, 0, 0, 0, 0, 0, 0, 0, 0, 0, 0, 0, 0, 0, 0, 0, 0, 0, 0, 0, 0, 0, 0, 0, 0, 0, 0, 0, 0, 0, 0, 0, 0, 0, 0, 0, 0, 0, 0, 0, 0, 0, 0, 0, 0, 0, 0, 0, 0, 0, (-100), 100, (-100), 100, (-100), 100, (-100), 100, 0, 0, 0, 0, 0, 0, 0, 0, 0, 0, 0, 0, 0, 0, 0, 0, 0, 0, 0, 0, 0, 0, 0, 0, 0, 0, 0, 0, 0, 0, 0, 0, 0, 0, 0, 0, 0, 0, 0, 0, 0, 0, 0, 0, 0, 0, 0, 0, 0, 0, 0, 0, 0, 0, 0, 0, 0, 0, 0, 0, 0, 0, 0, 0, 0, 0, 0, 0, 0, 0, 0, 0, 0, 0, 0, 0, 0, 0, 0, 0, 0, 0, 0, 0, 0, 0, 0, 0, 0, 0, 0, 0, 0, 0, 0, 0, 0, 0, 0, 0, 0, 0, 0, 0, 0, 0, 0, 0, 0, 0, 0, 0, 0, 0, 0, 0, 0, 0]),
  .inr (0, .inl (List.replicate 1820 0)),
  .inr (3, .inl (List.replicate 2 0)),
  .inr (0, .inl (List.replicate 70 0)),
  .inr (0, .inl (List.replicate 70 0)),
  .inr (0, .inl (List.replicate 70 0)),
  .inr (1, .inr (.inl (List.replicate 70 0))),
  .inr (1, .inr (.inl (List.replicate 8 0))),
  .inr (0, .inl (List.replicate 910 0)),
  .inr (0, .inl (List.replicate 910 0)),
  .inr (0, .inl (List.replicate 20 0)),
  .inr (0, .inl (List.replicate 20 0)),
  .inr (0, .inl (List.replicate 910 0)),
  .inr (1, .inr (.inl (List.replicate 4 0)))]
def hXM : SH := hX0 ++ hN
set_option maxRecDepth 100000 in
theorem rX_0 : runM 3000 3 0 [.ref 0] [.inl (0, blankF 0)] = some (none, hX0, 61, 1022) := eqR (by decide +kernel)
set_option maxRecDepth 100000 in
theorem rM_0 : runM 3000 1 143 [.ref 0] [.inl (12, blankF 12)] = some (none, hM, 14, 5794) := eqR (by decide +kernel)
theorem rX : Rn 12 0 [.ref 0] [.inl (0, blankF 0)] (none, hX0, 61, 1022) := Rn.mono ⟨3000, rX_0⟩ (by decide)
theorem rM : Rn 12 143 [.ref 0] [.inl (12, blankF 12)] (none, hM, 14, 5794) := Rn.mono ⟨3000, rM_0⟩ (by decide)
set_option maxRecDepth 100000 in
theorem pX_0 : paste [.inl (0, blankF 0)] [0] hX0 = hX0 := eqH (by decide +kernel)
set_option maxRecDepth 100000 in
theorem pM_0 : paste (hX0 ++ [.inl (12, blankF 12)]) [62] hM = hXM := eqH (by decide +kernel)
set_option maxRecDepth 100000 in
theorem okX0 : hX0.all (okC hX0.length) = true := by decide +kernel
set_option maxRecDepth 100000 in
theorem okX : hX.all (okC hX.length) = true := by decide +kernel
set_option maxRecDepth 100000 in
theorem okM : hM.all (okC hM.length) = true := by decide +kernel
set_option maxRecDepth 100000 in
theorem okX1 : (hX0 ++ [.inl (12, blankF 12)] : SH).all (okC (hX0 ++ [.inl (12, blankF 12)] : SH).length) = true := by decide +kernel
set_option maxRecDepth 100000 in
theorem okXM : hXM.all (okC hXM.length) = true := by decide +kernel
def I0 : List Nat := [0, 1, 2, 31, 32, 33, 34, 35, 36, 37, 38, 39, 40, 3, 4, 5, 6, 7, 8, 9, 10, 11, 12, 13, 14, 15, 16, 17, 18, 19, 20, 21, 22, 23, 24, 25, 26, 27, 28, 29, 30, 41, 42, 49, 50, 51, 52, 53, 54, 55, 56, 43, 44, 45, 46, 47, 48, 57, 58, 59, 60, 61]
def J0 : List Nat := [62, 63, 64, 65, 66, 67, 68, 69, 70, 71, 72, 73, 74, 75, 76]
set_option maxRecDepth 100000 in
theorem iX : (reach hXM 100000 [0] []).reverse = I0 := by decide +kernel
set_option maxRecDepth 100000 in
theorem iM : (reach hXM 100000 [62] []).reverse = J0 := by decide +kernel
set_option maxRecDepth 100000 in
theorem kX : cutOk hXM [.ref 0] I0 = true := by decide +kernel
set_option maxRecDepth 100000 in
theorem kM : cutOk hXM [.ref 62] J0 = true := by decide +kernel
set_option maxRecDepth 100000 in
theorem sX : subH hXM I0 = hX := eqH (by decide +kernel)
set_option maxRecDepth 100000 in
theorem sM : subH hXM J0 = hM := eqH (by decide +kernel)
theorem apart0 : ∀ j ∈ J0, j ∉ I0 := by decide
/-- what is reached doesn't change by changes elsewhere -/
theorem reach_congr {σ σ' : SH} {P : Nat → Prop} (hP : ∀ i, P i → ∃ c, σ[i]? = some c ∧ σ'[i]? = some c ∧ ∀ j ∈ refsC c, P j) : ∀ (n : Nat) (td seen : List Nat), (∀ i ∈ td, P i) → reach σ' n td seen = reach σ n td seen := by
  intro n
  induction n with
  | zero => intro td seen _; rfl
  | succ n ih =>
    intro td seen h
    cases td with
    | nil => rfl
    | cons i td =>
      obtain ⟨c, h1, h2, h3⟩ := hP i (h i List.mem_cons_self)
      have ht : ∀ j ∈ td, P j := fun j hj => h j (List.mem_cons_of_mem _ hj)
      simp only [reach, h1, h2]
      split
      · exact ih td seen ht
      · exact ih _ _ fun j hj => (List.mem_append.mp hj).elim (h3 j) (ht j)
theorem flat_ints {as : List Value} (h : ∀ v ∈ as, refsV v = []) : as.flatMap refsV = [] := List.flatMap_eq_nil_iff.mpr h
theorem map_ints {I : List Nat} {as : List Value} (h : ∀ v ∈ as, refsV v = []) : as.map (rnV I) = as := by
  have e : as.map (rnV I) = as.map id := List.map_congr_left fun v hv => by
    have h1 := h v hv
    cases v with
    | ref j => cases h1
    | _ => rfl
  rw [e, List.map_id]
theorem cut_ints {σ : SH} {q : Nat} {I : List Nat} {as : List Value} (hI : (reach σ 100000 [q] []).reverse = I) (h : ∀ v ∈ as, refsV v = []) : cutI σ (.ref q :: as) = I := by
  unfold cutI
  rw [List.flatMap_cons, flat_ints h]
  exact hI
theorem cutOk_ints {σ : SH} {q : Nat} {I : List Nat} {as : List Value} (hk : cutOk σ [.ref q] I = true) (h : ∀ v ∈ as, refsV v = []) : cutOk σ (.ref q :: as) I = true := by
  have h2 : as.all (fun v => (refsV v).all (fun i => decide (i ∈ I))) = true := List.all_eq_true.mpr fun v hv => by rw [h v hv]; rfl
  simp only [cutOk, List.all_cons, List.all_nil, Bool.and_true] at hk ⊢
  rw [h2, Bool.and_true]
  exact hk
theorem cut_stable {σ σ' : SH} {q : Nat} {J : List Nat} (hJ : (reach σ 100000 [q] []).reverse = J) (hk : cutOk σ [.ref q] J = true) (hs : ∀ j ∈ J, σ'[j]? = σ[j]?) : (reach σ' 100000 [q] []).reverse = J ∧ cutOk σ' [.ref q] J = true ∧ subH σ' J = subH σ J := by
  obtain ⟨h1, h2, h3⟩ := cutOk_spec hk
  refine ⟨?_, ?_, ?_⟩
  · rw [← hJ]
    congr 1
    refine reach_congr (P := fun i => i ∈ J) (fun i hi => ?_) _ _ _ (fun i hi => ?_)
    · obtain ⟨c, e1, e2⟩ := h3 i hi
      exact ⟨c, e1, by rw [hs i hi, e1], e2⟩
    · rw [List.mem_singleton.mp hi]
      exact h2 _ List.mem_cons_self q (by simp [refsV])
  · simp only [cutOk, Bool.and_eq_true] at hk ⊢
    refine ⟨hk.1, hk.2.1, List.all_eq_true.mpr fun i hi => ?_⟩
    rw [hs i hi]
    exact List.all_eq_true.mp hk.2.2 i hi
  · unfold subH
    refine List.map_congr_left fun i hi => ?_
    rw [List.getD_eq_getElem?_getD, List.getD_eq_getElem?_getD, hs i hi]
theorem paste_other {σ h1 : SH} {I : List Nat} {j : Nat} (hj : j < σ.length) (hn : j ∉ I) : (paste σ I h1)[j]? = σ[j]? := by
  unfold paste
  rw [List.getElem?_append_left (by simp; exact hj), List.getElem?_mapIdx, List.getElem?_eq_getElem hj]
  simp [hn]
theorem callIn_int {a q : Nat} {me : ME} {as rest : List Value} {lv : LV} {σ : SH} {fs : List Value} (hme : meths[a]? = some me) (hk : mKd me = 0) (ho : mOw me < 13) (hq : σ[q]? = some (.inl (mOw me, fs))) (hs : (rest.map fun v => v.category).sum ≤ 8) (hok : okFr σ.length rest lv = true) : callIn a (as.length + 1) (as.reverse ++ .ref q :: rest) lv σ = some (.ref q :: as, rest) := by
  have e1 : (as.reverse ++ Value.ref q :: rest).take (as.length + 1) = as.reverse ++ [.ref q] := by
    rw [List.take_append, List.take_of_length_le (by simp)]
    simp
  have e2 : (as.reverse ++ Value.ref q :: rest).drop (as.length + 1) = rest := by
    rw [List.drop_append]
    simp
  unfold callIn
  simp only [hme, e1, e2]
  rw [if_pos]
  · simp
  · refine ⟨by simp, hs, hok, ?_⟩
    simp only [isCls, hk, List.reverse_append, List.reverse_cons, List.reverse_nil, List.nil_append, List.reverse_reverse, List.singleton_append, hq]
    simp [ho]
abbrev LX (xs : List Int32) : XS → Res → Prop := Ex (some xs) false 13 4 tbLaw 12
def lv3 : LV := [(3, .int 0), (2, .ref 62), (1, .ref 0), (0, .ref sIdx)]
def lv4 : LV := [(3, .int 6), (2, .ref 62), (1, .ref 0), (0, .ref sIdx)]
set_option maxRecDepth 100000 in
theorem law_pre {xs : List Int32} {R : Res} (h : LX xs (18, [], lv3, hXM, 77, 6846) R) : LX xs (0, [], [(0, .ref sIdx)], [], 0, 0) R := by
  refine Ex.steps 2 (S' := (4, [.ref 0, .ref 0], [(0, .ref sIdx)], [.inl (0, blankF 0)], 1, 6)) rfl ?_
  refine Ex.callR (as := [.ref 0]) (rest := [.ref 0]) (I := [0]) (as' := [.ref 0]) (h := [.inl (0, blankF 0)]) (h1 := hX0) (r := none) (c1 := 61) (s1 := 1022) (σ2 := hX0) rfl rfl rfl rfl rfl rfl rfl rX (Nat.le_of_ble_eq_true rfl) (Or.inr ⟨rfl, Nat.le_of_ble_eq_true rfl⟩) okX0 pX_0 ?_
  refine Ex.steps 1 (S' := (8, [], [(1, .ref 0), (0, .ref sIdx)], hX0, 62, 1028)) rfl ?_
  refine Ex.steps 2 (S' := (12, [.ref 62, .ref 62], [(1, .ref 0), (0, .ref sIdx)], hX0 ++ [.inl (12, blankF 12)], 63, 1052)) ?_ ?_
  · rfl
  · refine Ex.callR (as := [.ref 62]) (rest := [.ref 62]) (I := [62]) (as' := [.ref 0]) (h := [.inl (12, blankF 12)]) (h1 := hM) (r := none) (c1 := 14) (s1 := 5794) (σ2 := hXM) rfl rfl rfl rfl rfl rfl rfl rM (Nat.le_of_ble_eq_true rfl) (Or.inr ⟨okX1, Nat.le_of_ble_eq_true rfl⟩) okM pM_0 ?_
    exact Ex.steps 3 (S' := (18, [], lv3, hXM, 77, 6846)) rfl h
set_option maxRecDepth 100000 in
theorem law_tail {x0 x1 x2 x3 x4 x5 : Int32} {σ : SH} {ca cb : Nat} : LX [x0, x1, x2, x3, x4, x5] (1359, [], lv3, σ, ca, cb) (some (.int 1), σ, ca, cb) := by
  refine Ex.steps 2 (S' := (18, [], lv4, σ, ca, cb)) rfl ?_
  refine Ex.steps 2 (S' := (20, [.ref sIdx, .int 6], lv4, σ, ca, cb)) rfl ?_
  refine Ex.steps 1 (S' := (21, [.int 6, .int 6], lv4, σ, ca, cb)) rfl ?_
  refine Ex.steps 2 (S' := (24, [.int 0, .int 6], lv4, σ, ca, cb)) rfl ?_
  refine Ex.steps 1 (S' := (1365, [], lv4, σ, ca, cb)) rfl ?_
  refine Ex.steps 1 (S' := (1366, [.int 1], lv4, σ, ca, cb)) rfl ?_
  exact Ex.ret rfl rfl
