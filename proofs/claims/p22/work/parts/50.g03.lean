/-! ===== contracts, written by wip/vse3/emitlaw.py ===== -/
noncomputable def zc255 : AC := qoC 8 [qvR 48, qvS 63, qvS 64, qvS 65, qvS 66]
noncomputable def zc256 : AC := qoC 9 [qvR 54, qvR 55, qvR 56, qvS 75]
noncomputable def zh257 : AH := [zc11, zc31, qrC 4 [some 3, some 8], zc32, qkC 100 7, qkC 100 8, qkC 100 9, qkC 100 10, zc33, qkC 100 12, qkC 100 13, qkC 100 14, qkC 100 15, zc34, qkC 100 17, qkC 100 18, qkC 100 19, qkC 100 20, qkC 100 21, qkC 100 22, qkC 100 23, zc35, qkC 100 25, qkC 100 26, qkC 100 27, qkC 100 28, qkC 100 29, qkC 100 30, zc36, qkC 102 35, qkC 100 36, qjC 1 60, zc37, qkC 100 38, qkC 100 39, qkC 100 40, qkC 100 41, qkC 100 42, qkC 100 43, qkC 100 44, qkC 100 45, qjC 1 6, qjC 1 4, zc241, zc204, zc242, qiC 0 [qgA 12], zc255, qiC 0 [qgA 12], zc237, qiC 0 [qgA 12], zc212, qiC 0 [qgA 12], zc256, qkC 100 76, qkC 100 77, qkC 100 78, qkC 100 79, qkC 100 80]
noncomputable def zc258 : AC := qoC 7 [qvR 44, qvS 84, qvR 53, qvR 57, qvR 58, qvS 47, qvS 48, qvS 49, qvS 50, qvS 51, qvS 52, qvS 53, qvS 54, qvS 55, qvS 56, qvS 57, qvS 58]
noncomputable def zt99 (r : TbL) : TbL := qtN 0 1 4 :: qtA 1 :: (2, (.negSucc 2147483646), (.ofNat 2147483647)) :: qtN 3 1 1000 :: qtN 4 0 50 :: qtN 5 0 10 :: qtN 6 0 60 :: qtN 11 0 60 :: qtN 16 0 8 :: qtN 24 0 6 :: qtN 31 0 60 :: qtA 32 :: qtN 33 0 60 :: qtN 34 0 60 :: qtN 37 0 8 :: qtA 46 :: qtA 47 :: qtA 48 :: qtA 49 :: qtA 50 :: qtA 51 :: qtN 52 0 3 :: qtA 53 :: qtA 54 :: qtA 55 :: qtA 56 :: qtN 57 0 1 :: qtA 58 :: qtA 59 :: qtA 60 :: qtA 61 :: qtA 62 :: qtA 63 :: qtA 64 :: qtA 65 :: qtA 66 :: qtA 67 :: qtA 68 :: qtA 69 :: qtA 70 :: qtA 71 :: qtA 72 :: qtA 73 :: qtA 74 :: qtA 75 :: r
noncomputable def zc259 : AC := qoC 8 [qvR 46, qvS 59, qvS 83, qvS 61, qvS 62]
noncomputable def zh260 : AH := [zc11, zc31, qrC 4 [some 3, some 8], zc32, qkC 100 7, qkC 100 8, qkC 100 9, qkC 100 10, zc33, qkC 100 12, qkC 100 13, qkC 100 14, qkC 100 15, zc34, qkC 100 17, qkC 100 18, qkC 100 19, qkC 100 20, qkC 100 21, qkC 100 22, qkC 100 23, zc35, qkC 100 25, qkC 100 26, qkC 100 27, qkC 100 28, qkC 100 29, qkC 100 30, zc36, qkC 102 35, qkC 100 36, qjC 1 60, zc37, qkC 100 38, qkC 100 39, qkC 100 40, qkC 100 41, qkC 100 42, qkC 100 43, qkC 100 44, qkC 100 45, qjC 1 6, qjC 1 4, zc241, zc204, zc259, qiC 0 [qgA 12], zc255, qiC 0 [qgA 12], zc237, qiC 0 [qgA 12], zc212, qiC 0 [qgA 12], zc256, qkC 100 76, qkC 100 77, qkC 100 78, qkC 100 79, qkC 100 80]
noncomputable def zc261 : AC := qoC 8 [qvR 46, qvS 85, qvS 86, qvS 61, qvS 62]
noncomputable def zc262 : AC := qoC 8 [qvR 48, qvS 87, qvS 88, qvS 65, qvS 66]
noncomputable def zc263 : AC := qoC 8 [qvR 48, qvS 63, qvS 84, qvS 65, qvS 66]
noncomputable def zc264 : AC := qoC 7 [qvR 44, qvS 83, qvR 53, qvR 57, qvR 58, qvS 47, qvS 48, qvS 49, qvS 50, qvS 51, qvS 52, qvS 53, qvS 54, qvS 55, qvS 56, qvS 57, qvS 58]
noncomputable def zc265 : AC := qoC 8 [qvR 46, qvS 84, qvS 85, qvS 61, qvS 62]
noncomputable def zc266 : AC := qoC 8 [qvR 48, qvS 86, qvS 87, qvS 65, qvS 66]
noncomputable def zc267 : AC := qoC 8 [qvR 50, qvS 88, qvS 89, qvS 69, qvS 70]
noncomputable def c80_0 : Ct := (80, 2, (82, (zt1 [qtA 81]), [], [qvR 0, qvR 43, qvS 81], zh257, [(0, [9, 10, 11, 12], []), (0, [4, 5, 6, 7], [])]),
  [((91, [qtA 82, qtA 83, qtA 84, qtA 85, qtA 86, qtA 87, qtA 88, qtA 89, qtA 90], [], [], [zc11, zc31, qrC 4 [some 3, some 8], zc32, qkC 100 7, qkC 100 8, qkC 100 9, qkC 100 10, zc33, qkC 100 12, qkC 100 13, qkC 100 14, qkC 100 15, zc34, qkC 100 17, qkC 100 18, qkC 100 19, qkC 100 20, qkC 100 21, qkC 100 22, qkC 100 23, zc35, qkC 100 25, qkC 100 26, qkC 100 27, qkC 100 28, qkC 100 29, qkC 100 30, zc36, qkC 102 35, qkC 100 36, qjC 1 60, zc37, qkC 100 38, qkC 100 39, qkC 100 40, qkC 100 41, qkC 100 42, qkC 100 43, qkC 100 44, qkC 100 45, qjC 1 6, qjC 1 4, qoC 7 [qvR 44, qvS 82, qvR 53, qvR 57, qvR 58, qvS 47, qvS 48, qvS 49, qvS 50, qvS 51, qvS 52, qvS 53, qvS 54, qvS 55, qvS 56, qvS 57, qvS 58], zc204, qoC 8 [qvR 46, qvS 83, qvS 84, qvS 61, qvS 62], qiC 0 [qgA 12], qoC 8 [qvR 48, qvS 85, qvS 86, qvS 65, qvS 66], qiC 0 [qgA 12], qoC 8 [qvR 50, qvS 87, qvS 88, qvS 69, qvS 70], qiC 0 [qgA 12], qoC 8 [qvR 52, qvS 89, qvS 90, qvS 73, qvS 74], qiC 0 [qgA 12], zc256, qkC 100 76, qkC 100 77, qkC 100 78, qkC 100 79, qkC 100 80], [(0, [9, 10, 11, 12], []), (0, [4, 5, 6, 7], [])]), 0, 0)])
noncomputable def c80_0_e : List Ct := [c60_0, c81_0, c81_1]
noncomputable def c80_0_p0 : PE := (2, [0, 1, 2, 3], (83, (zt1 [qtA 81, qtN 82 0 4]), [], [qvR 0, qvR 43, qvS 81, qvS 82], zh257, [(0, [9, 10, 11, 12], []), (0, [4, 5, 6, 7], [])]), symsL 82 0, some ((.ofNat 295), [(82, (.negSucc 19))]), 0, 0)
noncomputable def c80_0_p1 : PE := (2, [0, 1, 2, 3, 4, 5], (85, (zt1 [qtA 81, qtN 82 1 4, qtN 83 0 4, qtA 84]), [], [qvR 0, qvR 43, qvS 81, qvS 82, qvR 45, qvS 83], [zc11, zc31, qrC 4 [some 3, some 8], zc32, qkC 100 7, qkC 100 8, qkC 100 9, qkC 100 10, zc33, qkC 100 12, qkC 100 13, qkC 100 14, qkC 100 15, zc34, qkC 100 17, qkC 100 18, qkC 100 19, qkC 100 20, qkC 100 21, qkC 100 22, qkC 100 23, zc35, qkC 100 25, qkC 100 26, qkC 100 27, qkC 100 28, qkC 100 29, qkC 100 30, zc36, qkC 102 35, qkC 100 36, qjC 1 60, zc37, qkC 100 38, qkC 100 39, qkC 100 40, qkC 100 41, qkC 100 42, qkC 100 43, qkC 100 44, qkC 100 45, qjC 1 6, qjC 1 4, zc258, zc204, qoC 8 [qvR 46, qvK (.ofNat 0), qvK (.ofNat 0), qvS 61, qvS 62], qiC 0 [qgA 12], zc255, qiC 0 [qgA 12], zc237, qiC 0 [qgA 12], zc212, qiC 0 [qgA 12], zc256, qkC 100 76, qkC 100 77, qkC 100 78, qkC 100 79, qkC 100 80], [(0, [9, 10, 11, 12], []), (0, [4, 5, 6, 7], [])]), symsL 82 0, some ((.ofNat 295), [(82, (.negSucc 19))]), 0, 0)
noncomputable def c80_0_p2 : PE := (2, [0, 1, 2, 3, 4], (84, (zt99 [qtA 81, qtN 82 1 4, (83, (.negSucc 2147483647), (.ofNat 2147483646))]), [], [qvR 0, qvR 43, qvS 81, qvS 82, qvR 45], zh260, [(0, [9, 10, 11, 12], []), (0, [4, 5, 6, 7], [])]), symsL 82 0, some ((.ofNat 295), [(82, (.negSucc 19))]), 0, 0)
noncomputable def c80_0_p3 : PE := (2, [0, 1, 2, 3, 4, 5], (89, (zt1 [qtA 81, qtN 82 2 4, qtN 83 0 4, qtA 84, qtA 85, qtA 86, qtA 87, (88, (.negSucc 2147483647), (.ofNat 2147483646))]), [], [qvR 0, qvR 43, qvS 81, qvS 82, qvR 47, qvS 83], [zc11, zc31, qrC 4 [some 3, some 8], zc32, qkC 100 7, qkC 100 8, qkC 100 9, qkC 100 10, zc33, qkC 100 12, qkC 100 13, qkC 100 14, qkC 100 15, zc34, qkC 100 17, qkC 100 18, qkC 100 19, qkC 100 20, qkC 100 21, qkC 100 22, qkC 100 23, zc35, qkC 100 25, qkC 100 26, qkC 100 27, qkC 100 28, qkC 100 29, qkC 100 30, zc36, qkC 102 35, qkC 100 36, qjC 1 60, zc37, qkC 100 38, qkC 100 39, qkC 100 40, qkC 100 41, qkC 100 42, qkC 100 43, qkC 100 44, qkC 100 45, qjC 1 6, qjC 1 4, zc258, zc204, zc261, qiC 0 [qgA 12], zc262, qiC 0 [qgA 12], zc237, qiC 0 [qgA 12], zc212, qiC 0 [qgA 12], zc256, qkC 100 76, qkC 100 77, qkC 100 78, qkC 100 79, qkC 100 80], [(0, [9, 10, 11, 12], []), (0, [4, 5, 6, 7], [])]), symsL 82 0, some ((.ofNat 295), [(82, (.negSucc 19))]), 0, 0)
noncomputable def c80_0_p4 : PE := (2, [0, 1, 2, 3, 4], (85, (zt99 [qtA 81, qtN 82 2 4, qtA 83, (84, (.negSucc 2147483647), (.ofNat 2147483646))]), [], [qvR 0, qvR 43, qvS 81, qvS 82, qvR 47], [zc11, zc31, qrC 4 [some 3, some 8], zc32, qkC 100 7, qkC 100 8, qkC 100 9, qkC 100 10, zc33, qkC 100 12, qkC 100 13, qkC 100 14, qkC 100 15, zc34, qkC 100 17, qkC 100 18, qkC 100 19, qkC 100 20, qkC 100 21, qkC 100 22, qkC 100 23, zc35, qkC 100 25, qkC 100 26, qkC 100 27, qkC 100 28, qkC 100 29, qkC 100 30, zc36, qkC 102 35, qkC 100 36, qjC 1 60, zc37, qkC 100 38, qkC 100 39, qkC 100 40, qkC 100 41, qkC 100 42, qkC 100 43, qkC 100 44, qkC 100 45, qjC 1 6, qjC 1 4, zc241, zc204, zc259, qiC 0 [qgA 12], zc263, qiC 0 [qgA 12], zc237, qiC 0 [qgA 12], zc212, qiC 0 [qgA 12], zc256, qkC 100 76, qkC 100 77, qkC 100 78, qkC 100 79, qkC 100 80], [(0, [9, 10, 11, 12], []), (0, [4, 5, 6, 7], [])]), symsL 82 0, some ((.ofNat 295), [(82, (.negSucc 19))]), 0, 0)
noncomputable def c80_0_p5 : PE := (2, [0, 1, 2, 3, 4, 5], (91, (zt1 [qtA 81, qtN 82 3 4, qtN 83 0 4, qtA 84, qtA 85, qtA 86, qtA 87, qtA 88, qtA 89, (90, (.negSucc 2147483647), (.ofNat 2147483646))]), [], [qvR 0, qvR 43, qvS 81, qvS 82, qvR 49, qvS 83], [zc11, zc31, qrC 4 [some 3, some 8], zc32, qkC 100 7, qkC 100 8, qkC 100 9, qkC 100 10, zc33, qkC 100 12, qkC 100 13, qkC 100 14, qkC 100 15, zc34, qkC 100 17, qkC 100 18, qkC 100 19, qkC 100 20, qkC 100 21, qkC 100 22, qkC 100 23, zc35, qkC 100 25, qkC 100 26, qkC 100 27, qkC 100 28, qkC 100 29, qkC 100 30, zc36, qkC 102 35, qkC 100 36, qjC 1 60, zc37, qkC 100 38, qkC 100 39, qkC 100 40, qkC 100 41, qkC 100 42, qkC 100 43, qkC 100 44, qkC 100 45, qjC 1 6, qjC 1 4, zc258, zc204, zc261, qiC 0 [qgA 12], zc262, qiC 0 [qgA 12], qoC 8 [qvR 50, qvS 89, qvS 90, qvS 69, qvS 70], qiC 0 [qgA 12], zc212, qiC 0 [qgA 12], zc256, qkC 100 76, qkC 100 77, qkC 100 78, qkC 100 79, qkC 100 80], [(0, [9, 10, 11, 12], []), (0, [4, 5, 6, 7], [])]), symsL 82 0, some ((.ofNat 295), [(82, (.negSucc 19))]), 0, 0)
noncomputable def c80_0_p6 : PE := (2, [0, 1, 2, 3, 4], (86, (zt99 [qtA 81, qtN 82 3 4, qtA 83, qtA 84, (85, (.negSucc 2147483647), (.ofNat 2147483646))]), [], [qvR 0, qvR 43, qvS 81, qvS 82, qvR 49], [zc11, zc31, qrC 4 [some 3, some 8], zc32, qkC 100 7, qkC 100 8, qkC 100 9, qkC 100 10, zc33, qkC 100 12, qkC 100 13, qkC 100 14, qkC 100 15, zc34, qkC 100 17, qkC 100 18, qkC 100 19, qkC 100 20, qkC 100 21, qkC 100 22, qkC 100 23, zc35, qkC 100 25, qkC 100 26, qkC 100 27, qkC 100 28, qkC 100 29, qkC 100 30, zc36, qkC 102 35, qkC 100 36, qjC 1 60, zc37, qkC 100 38, qkC 100 39, qkC 100 40, qkC 100 41, qkC 100 42, qkC 100 43, qkC 100 44, qkC 100 45, qjC 1 6, qjC 1 4, zc241, zc204, zc259, qiC 0 [qgA 12], zc263, qiC 0 [qgA 12], qoC 8 [qvR 50, qvS 67, qvS 85, qvS 69, qvS 70], qiC 0 [qgA 12], zc212, qiC 0 [qgA 12], zc256, qkC 100 76, qkC 100 77, qkC 100 78, qkC 100 79, qkC 100 80], [(0, [9, 10, 11, 12], []), (0, [4, 5, 6, 7], [])]), symsL 82 0, some ((.ofNat 295), [(82, (.negSucc 19))]), 0, 0)
noncomputable def c80_0_p7 : PE := (2, [0, 1, 2, 3, 4, 5], (92, (zt1 [qtA 81, qtN 82 0 4, qtA 83, qtA 84, qtA 85, qtA 86, qtA 87, qtA 88, qtA 89, qtA 90, (91, (.negSucc 2147483647), (.ofNat 2147483646))]), [], [qvR 0, qvR 43, qvS 81, qvK (.ofNat 4), qvR 51, qvS 82], [zc11, zc31, qrC 4 [some 3, some 8], zc32, qkC 100 7, qkC 100 8, qkC 100 9, qkC 100 10, zc33, qkC 100 12, qkC 100 13, qkC 100 14, qkC 100 15, zc34, qkC 100 17, qkC 100 18, qkC 100 19, qkC 100 20, qkC 100 21, qkC 100 22, qkC 100 23, zc35, qkC 100 25, qkC 100 26, qkC 100 27, qkC 100 28, qkC 100 29, qkC 100 30, zc36, qkC 102 35, qkC 100 36, qjC 1 60, zc37, qkC 100 38, qkC 100 39, qkC 100 40, qkC 100 41, qkC 100 42, qkC 100 43, qkC 100 44, qkC 100 45, qjC 1 6, qjC 1 4, zc264, zc204, zc265, qiC 0 [qgA 12], zc266, qiC 0 [qgA 12], zc267, qiC 0 [qgA 12], qoC 8 [qvR 52, qvS 90, qvS 91, qvS 73, qvS 74], qiC 0 [qgA 12], zc256, qkC 100 76, qkC 100 77, qkC 100 78, qkC 100 79, qkC 100 80], [(0, [9, 10, 11, 12], []), (0, [4, 5, 6, 7], [])]), symsL 82 0, some ((.ofNat 215), []), 0, 0)
noncomputable def c80_0_p8 : PE := (2, [0, 1, 2, 3, 4], (86, (zt99 [qtA 81, qtA 82, qtA 83, qtA 84, (85, (.negSucc 2147483647), (.ofNat 2147483646))]), [], [qvR 0, qvR 43, qvS 81, qvK (.ofNat 4), qvR 51], [zc11, zc31, qrC 4 [some 3, some 8], zc32, qkC 100 7, qkC 100 8, qkC 100 9, qkC 100 10, zc33, qkC 100 12, qkC 100 13, qkC 100 14, qkC 100 15, zc34, qkC 100 17, qkC 100 18, qkC 100 19, qkC 100 20, qkC 100 21, qkC 100 22, qkC 100 23, zc35, qkC 100 25, qkC 100 26, qkC 100 27, qkC 100 28, qkC 100 29, qkC 100 30, zc36, qkC 102 35, qkC 100 36, qjC 1 60, zc37, qkC 100 38, qkC 100 39, qkC 100 40, qkC 100 41, qkC 100 42, qkC 100 43, qkC 100 44, qkC 100 45, qjC 1 6, qjC 1 4, zc241, zc204, qoC 8 [qvR 46, qvS 59, qvS 82, qvS 61, qvS 62], qiC 0 [qgA 12], qoC 8 [qvR 48, qvS 63, qvS 83, qvS 65, qvS 66], qiC 0 [qgA 12], qoC 8 [qvR 50, qvS 67, qvS 84, qvS 69, qvS 70], qiC 0 [qgA 12], qoC 8 [qvR 52, qvS 71, qvS 85, qvS 73, qvS 74], qiC 0 [qgA 12], zc256, qkC 100 76, qkC 100 77, qkC 100 78, qkC 100 79, qkC 100 80], [(0, [9, 10, 11, 12], []), (0, [4, 5, 6, 7], [])]), symsL 82 0, some ((.ofNat 215), []), 0, 0)
noncomputable def c80_0_p9 : PE := (65, [0, 1, 2, 3, 4, 5], (84, (zt1 [qtA 81, qtN 82 0 4, qtA 83]), [], [qvR 0, qvR 43, qvS 81, qvK (.ofNat 0), qvR 45, qvS 82], zh260, [(0, [9, 10, 11, 12], []), (0, [4, 5, 6, 7], [])]), symsL 82 0, some ((.ofNat 289), [(82, (.negSucc 0))]), 0, 0)
noncomputable def c80_0_p10 : PE := (65, [0, 1, 2, 3, 4, 5], (87, (zt1 [qtA 81, qtN 82 0 4, qtA 83, qtA 84, qtA 85, qtA 86]), [], [qvR 0, qvR 43, qvS 81, qvK (.ofNat 1), qvR 47, qvS 82], [zc11, zc31, qrC 4 [some 3, some 8], zc32, qkC 100 7, qkC 100 8, qkC 100 9, qkC 100 10, zc33, qkC 100 12, qkC 100 13, qkC 100 14, qkC 100 15, zc34, qkC 100 17, qkC 100 18, qkC 100 19, qkC 100 20, qkC 100 21, qkC 100 22, qkC 100 23, zc35, qkC 100 25, qkC 100 26, qkC 100 27, qkC 100 28, qkC 100 29, qkC 100 30, zc36, qkC 102 35, qkC 100 36, qjC 1 60, zc37, qkC 100 38, qkC 100 39, qkC 100 40, qkC 100 41, qkC 100 42, qkC 100 43, qkC 100 44, qkC 100 45, qjC 1 6, qjC 1 4, zc264, zc204, zc265, qiC 0 [qgA 12], qoC 8 [qvR 48, qvS 63, qvS 86, qvS 65, qvS 66], qiC 0 [qgA 12], zc237, qiC 0 [qgA 12], zc212, qiC 0 [qgA 12], zc256, qkC 100 76, qkC 100 77, qkC 100 78, qkC 100 79, qkC 100 80], [(0, [9, 10, 11, 12], []), (0, [4, 5, 6, 7], [])]), symsL 82 0, some ((.ofNat 269), [(82, (.negSucc 0))]), 0, 0)
noncomputable def c80_0_p11 : PE := (65, [0, 1, 2, 3, 4, 5], (89, (zt1 [qtA 81, qtN 82 0 4, qtA 83, qtA 84, qtA 85, qtA 86, qtA 87, qtA 88]), [], [qvR 0, qvR 43, qvS 81, qvK (.ofNat 2), qvR 49, qvS 82], [zc11, zc31, qrC 4 [some 3, some 8], zc32, qkC 100 7, qkC 100 8, qkC 100 9, qkC 100 10, zc33, qkC 100 12, qkC 100 13, qkC 100 14, qkC 100 15, zc34, qkC 100 17, qkC 100 18, qkC 100 19, qkC 100 20, qkC 100 21, qkC 100 22, qkC 100 23, zc35, qkC 100 25, qkC 100 26, qkC 100 27, qkC 100 28, qkC 100 29, qkC 100 30, zc36, qkC 102 35, qkC 100 36, qjC 1 60, zc37, qkC 100 38, qkC 100 39, qkC 100 40, qkC 100 41, qkC 100 42, qkC 100 43, qkC 100 44, qkC 100 45, qjC 1 6, qjC 1 4, zc264, zc204, zc265, qiC 0 [qgA 12], zc266, qiC 0 [qgA 12], qoC 8 [qvR 50, qvS 67, qvS 88, qvS 69, qvS 70], qiC 0 [qgA 12], zc212, qiC 0 [qgA 12], zc256, qkC 100 76, qkC 100 77, qkC 100 78, qkC 100 79, qkC 100 80], [(0, [9, 10, 11, 12], []), (0, [4, 5, 6, 7], [])]), symsL 82 0, some ((.ofNat 249), [(82, (.negSucc 0))]), 0, 0)
noncomputable def c80_0_p12 : PE := (65, [0, 1, 2, 3, 4, 5], (91, (zt1 [qtA 81, qtN 82 0 4, qtA 83, qtA 84, qtA 85, qtA 86, qtA 87, qtA 88, qtA 89, qtA 90]), [], [qvR 0, qvR 43, qvS 81, qvK (.ofNat 3), qvR 51, qvS 82], [zc11, zc31, qrC 4 [some 3, some 8], zc32, qkC 100 7, qkC 100 8, qkC 100 9, qkC 100 10, zc33, qkC 100 12, qkC 100 13, qkC 100 14, qkC 100 15, zc34, qkC 100 17, qkC 100 18, qkC 100 19, qkC 100 20, qkC 100 21, qkC 100 22, qkC 100 23, zc35, qkC 100 25, qkC 100 26, qkC 100 27, qkC 100 28, qkC 100 29, qkC 100 30, zc36, qkC 102 35, qkC 100 36, qjC 1 60, zc37, qkC 100 38, qkC 100 39, qkC 100 40, qkC 100 41, qkC 100 42, qkC 100 43, qkC 100 44, qkC 100 45, qjC 1 6, qjC 1 4, zc264, zc204, zc265, qiC 0 [qgA 12], zc266, qiC 0 [qgA 12], zc267, qiC 0 [qgA 12], qoC 8 [qvR 52, qvS 71, qvS 90, qvS 73, qvS 74], qiC 0 [qgA 12], zc256, qkC 100 76, qkC 100 77, qkC 100 78, qkC 100 79, qkC 100 80], [(0, [9, 10, 11, 12], []), (0, [4, 5, 6, 7], [])]), symsL 82 0, some ((.ofNat 229), [(82, (.negSucc 0))]), 0, 0)
noncomputable def c80_0_pts : List PE := [c80_0_p0, c80_0_p1, c80_0_p2, c80_0_p3, c80_0_p4, c80_0_p5, c80_0_p6, c80_0_p7, c80_0_p8, c80_0_p9, c80_0_p10, c80_0_p11, c80_0_p12]
set_option maxRecDepth 100000 in
theorem c80_0_k : enCtF c80_0 c80_0_e (pkP (c80_0_pts ++ []) [0]) (none) (noF, noM, 36893488147419103236, 0, 82) 3000 = true := by decide +kernel
set_option maxRecDepth 100000 in
theorem c80_0_k0 : ptCtF c80_0 c80_0_e (pkP (c80_0_pts ++ []) [9, 2, 10, 4, 11, 6, 12, 8, 0]) (noF, noM, 36893488147419103236, 0, 82) 3000 c80_0_p0 = true := by decide +kernel
set_option maxRecDepth 100000 in
theorem c80_0_k1 : ptCtF c80_0 c80_0_e (pkP (c80_0_pts ++ []) [10, 3, 11, 5, 12, 7, 1]) (noF, noM, 36893488147419103236, 0, 82) 3000 c80_0_p1 = true := by decide +kernel
set_option maxRecDepth 100000 in
theorem c80_0_k2 : ptCtF c80_0 c80_0_e (pkP (c80_0_pts ++ []) [10, 4, 11, 6, 12, 8, 2]) (noF, noM, 36893488147419103236, 0, 82) 3000 c80_0_p2 = true := by decide +kernel
set_option maxRecDepth 100000 in
theorem c80_0_k3 : ptCtF c80_0 c80_0_e (pkP (c80_0_pts ++ []) [11, 5, 12, 7, 3]) (noF, noM, 36893488147419103236, 0, 82) 3000 c80_0_p3 = true := by decide +kernel
set_option maxRecDepth 100000 in
theorem c80_0_k4 : ptCtF c80_0 c80_0_e (pkP (c80_0_pts ++ []) [11, 6, 12, 8, 4]) (noF, noM, 36893488147419103236, 0, 82) 3000 c80_0_p4 = true := by decide +kernel
set_option maxRecDepth 100000 in
theorem c80_0_k5 : ptCtF c80_0 c80_0_e (pkP (c80_0_pts ++ []) [12, 7, 5]) (noF, noM, 36893488147419103236, 0, 82) 3000 c80_0_p5 = true := by decide +kernel
set_option maxRecDepth 100000 in
theorem c80_0_k6 : ptCtF c80_0 c80_0_e (pkP (c80_0_pts ++ []) [12, 8, 6]) (noF, noM, 36893488147419103236, 0, 82) 3000 c80_0_p6 = true := by decide +kernel
set_option maxRecDepth 100000 in
theorem c80_0_k7 : ptCtF c80_0 c80_0_e (pkP (c80_0_pts ++ []) []) (noF, noM, 36893488147419103236, 0, 82) 3000 c80_0_p7 = true := by decide +kernel
set_option maxRecDepth 100000 in
theorem c80_0_k8 : ptCtF c80_0 c80_0_e (pkP (c80_0_pts ++ []) []) (noF, noM, 36893488147419103236, 0, 82) 3000 c80_0_p8 = true := by decide +kernel
set_option maxRecDepth 100000 in
theorem c80_0_k9 : ptCtF c80_0 c80_0_e (pkP (c80_0_pts ++ []) [1, 9]) (noF, noM, 36893488147419103236, 0, 82) 3000 c80_0_p9 = true := by decide +kernel
set_option maxRecDepth 100000 in
theorem c80_0_k10 : ptCtF c80_0 c80_0_e (pkP (c80_0_pts ++ []) [3, 10]) (noF, noM, 36893488147419103236, 0, 82) 3000 c80_0_p10 = true := by decide +kernel
set_option maxRecDepth 100000 in
theorem c80_0_k11 : ptCtF c80_0 c80_0_e (pkP (c80_0_pts ++ []) [5, 11]) (noF, noM, 36893488147419103236, 0, 82) 3000 c80_0_p11 = true := by decide +kernel
set_option maxRecDepth 100000 in
theorem c80_0_k12 : ptCtF c80_0 c80_0_e (pkP (c80_0_pts ++ []) [7, 12]) (noF, noM, 36893488147419103236, 0, 82) 3000 c80_0_p12 = true := by decide +kernel
set_option maxRecDepth 100000 in
theorem c80_0_v : ValidC PPk c80_0 := ct_ok fpk ⟨noF_ok, noM_ok⟩ (d := 1) (ext := []) (pts := c80_0_pts) (env := c80_0_e) rfl (List.forall_mem_cons.mpr ⟨⟨c60_0_v, Nat.le_of_ble_eq_true rfl⟩, List.forall_mem_cons.mpr ⟨⟨c81_0_v, Nat.le_of_ble_eq_true rfl⟩, List.forall_mem_cons.mpr ⟨⟨c81_1_v, Nat.le_of_ble_eq_true rfl⟩, fun _ h => (by cases h)⟩⟩⟩) ext_nil (fun q h => (by cases h)) (enF c80_0_k) (List.forall_mem_cons.mpr ⟨⟨_, ptF c80_0_k0⟩, List.forall_mem_cons.mpr ⟨⟨_, ptF c80_0_k1⟩, List.forall_mem_cons.mpr ⟨⟨_, ptF c80_0_k2⟩, List.forall_mem_cons.mpr ⟨⟨_, ptF c80_0_k3⟩, List.forall_mem_cons.mpr ⟨⟨_, ptF c80_0_k4⟩, List.forall_mem_cons.mpr ⟨⟨_, ptF c80_0_k5⟩, List.forall_mem_cons.mpr ⟨⟨_, ptF c80_0_k6⟩, List.forall_mem_cons.mpr ⟨⟨_, ptF c80_0_k7⟩, List.forall_mem_cons.mpr ⟨⟨_, ptF c80_0_k8⟩, List.forall_mem_cons.mpr ⟨⟨_, ptF c80_0_k9⟩, List.forall_mem_cons.mpr ⟨⟨_, ptF c80_0_k10⟩, List.forall_mem_cons.mpr ⟨⟨_, ptF c80_0_k11⟩, List.forall_mem_cons.mpr ⟨⟨_, ptF c80_0_k12⟩, fun _ h => (by cases h)⟩⟩⟩⟩⟩⟩⟩⟩⟩⟩⟩⟩⟩)

noncomputable def c84_0 : Ct := (84, 2, (40, (zt90 [qtA 39]), [], [qvS 39, qvR 0], zh203, []),
  [((41, [qtA 40], [], [.inl (true, (sL 40))], zh203, []), 0, 0)])
noncomputable def c84_0_e : List Ct := [c67_0]
noncomputable def c84_0_pts : List PE := []
set_option maxRecDepth 100000 in
theorem c84_0_k : enCtF c84_0 c84_0_e (pkP (c84_0_pts ++ []) []) (none) noH 3000 = true := by decide +kernel
set_option maxRecDepth 100000 in
theorem c84_0_v : ValidC PPk c84_0 := ct_ok fpk noH_ok (d := 1) (ext := []) (pts := c84_0_pts) (env := c84_0_e) rfl (List.forall_mem_cons.mpr ⟨⟨c67_0_v, Nat.le_of_ble_eq_true rfl⟩, fun _ h => (by cases h)⟩) ext_nil (fun q h => (by cases h)) (enF c84_0_k) (fun _ h => (by cases h))

noncomputable def c85_0 : Ct := (85, 1, (2, [qtA 0, (1, (.negSucc 9223372036854775807), (.ofNat 9223372036854775807))], [], [qvS 0, .inl (true, (sL 1))], [], []),
  [((3, [(2, (.negSucc 9223372036854775807), (.ofNat 9223372036854775807))], [], [.inl (true, (sL 2))], [], []), 0, 0)])
noncomputable def c85_0_e : List Ct := []
noncomputable def c85_0_pts : List PE := []
set_option maxRecDepth 100000 in
theorem c85_0_k : enCtF c85_0 c85_0_e (pkP (c85_0_pts ++ []) []) (none) noH 3000 = true := by decide +kernel
set_option maxRecDepth 100000 in
theorem c85_0_v : ValidC PPk c85_0 := ct_ok fpk noH_ok (d := 0) (ext := []) (pts := c85_0_pts) (env := c85_0_e) rfl (fun _ h => (by cases h)) ext_nil (fun q h => (by cases h)) (enF c85_0_k) (fun _ h => (by cases h))

noncomputable def c86_0 : Ct := (86, 1, (3, [qtA 0, (1, (.negSucc 9223372036854775807), (.ofNat 9223372036854775807)), (2, (.negSucc 9223372036854775807), (.ofNat 9223372036854775807))], [], [qvS 0, .inl (true, (sL 1)), .inl (true, (sL 2))], [], []),
  [((4, [(3, (.negSucc 9223372036854775807), (.ofNat 9223372036854775807))], [], [.inl (true, (sL 3))], [], []), 0, 0)])
noncomputable def c86_0_e : List Ct := []
noncomputable def c86_0_pts : List PE := []
set_option maxRecDepth 100000 in
theorem c86_0_k : enCtF c86_0 c86_0_e (pkP (c86_0_pts ++ []) []) (none) noH 3000 = true := by decide +kernel
set_option maxRecDepth 100000 in
theorem c86_0_v : ValidC PPk c86_0 := ct_ok fpk noH_ok (d := 0) (ext := []) (pts := c86_0_pts) (env := c86_0_e) rfl (fun _ h => (by cases h)) ext_nil (fun q h => (by cases h)) (enF c86_0_k) (fun _ h => (by cases h))

noncomputable def zt100 (r : TbL) : TbL := qtN 0 0 60 :: qtA 1 :: qtN 2 0 60 :: qtN 3 0 60 :: qtA 5 :: qtA 6 :: qtA 7 :: qtA 8 :: qtA 9 :: qtA 10 :: qtN 11 0 3 :: qtA 12 :: qtA 13 :: qtA 14 :: qtA 15 :: qtN 16 0 1 :: qtA 17 :: qtA 18 :: qtA 19 :: qtA 20 :: qtA 21 :: qtA 23 :: qtA 24 :: qtA 25 :: qtA 26 :: qtA 28 :: qtA 29 :: qtA 30 :: qtA 31 :: qtA 33 :: qtA 34 :: qtA 35 :: qtA 36 :: qtA 38 :: r
noncomputable def zh268 : AH := [zc107, qkC 102 4, qiC 0 [qgA 60], qjC 1 60, qoC 7 [qvR 5, qvS 5, qvR 14, qvR 18, qvR 19, qvS 6, qvS 7, qvS 8, qvS 9, qvS 10, qvS 11, qvS 12, qvS 13, qvS 14, qvS 15, qvS 16, qvS 17], qrC 5 [some 6, some 8, some 10, some 12], qoC 8 [qvR 7, qvS 18, qvS 19, qvS 20, qvS 21], qkC 100 22, qoC 8 [qvR 9, qvS 23, qvS 24, qvS 25, qvS 26], qkC 100 27, qoC 8 [qvR 11, qvS 28, qvS 29, qvS 30, qvS 31], qkC 100 32, qoC 8 [qvR 13, qvS 33, qvS 34, qvS 35, qvS 36], qkC 100 37, qoC 9 [qvR 15, qvR 16, qvR 17, qvS 38], qkC 100 39, qkC 100 40, qkC 100 41, qkC 100 42, qkC 100 43]
noncomputable def c83_0 : Ct := (83, 3, (44, (zt100 []), [], [qvR 0, qvR 4], zh268, []),
  [((45, [(44, (.negSucc 9223372036854775807), (.ofNat 9223372036854775807))], [], [.inl (true, (sL 44))], zh268, []), 0, 0)])
noncomputable def c83_0_e : List Ct := [c84_0, c85_0, c86_0]
noncomputable def c83_0_p0 : PE := (4, [0, 1, 2, 3], (44, (zt100 []), [], [qvR 0, qvR 4, qvK (.ofNat 0), qvK (.ofNat 0)], zh268, []), symsL 44 0, some ((.ofNat 121), []), 0, 0)
noncomputable def c83_0_p1 : PE := (4, [0, 1, 2, 3, 4], (47, [qtN 0 0 60, qtA 1, qtN 2 0 60, qtN 3 1 60, qtA 5, qtA 6, qtA 7, qtA 8, qtA 9, qtA 10, qtN 11 0 3, qtA 12, qtA 13, qtA 14, qtA 15, qtN 16 0 1, qtA 17, qtA 18, qtA 19, qtA 20, qtA 21, qtA 23, qtA 24, qtA 25, qtA 26, qtA 28, qtA 29, qtA 30, qtA 31, qtA 33, qtA 34, qtA 35, qtA 36, qtA 38, qtN 44 1 60, qtN 45 1 60, qtA 46], [], [qvR 0, qvR 4, qvS 44, qvS 45, qvS 46], zh268, []), symsL 44 0, some ((.ofNat 121), [(45, (.negSucc 0))]), 0, 0)
noncomputable def c83_0_pts : List PE := [c83_0_p0, c83_0_p1]
set_option maxRecDepth 100000 in
theorem c83_0_k : enCtF c83_0 c83_0_e (pkP (c83_0_pts ++ []) [0]) (none) (noF, noM, 16, 0, 44) 3000 = true := by decide +kernel
set_option maxRecDepth 100000 in
theorem c83_0_k0 : ptCtF c83_0 c83_0_e (pkP (c83_0_pts ++ []) [1]) (noF, noM, 16, 0, 44) 3000 c83_0_p0 = true := by decide +kernel
set_option maxRecDepth 100000 in
theorem c83_0_k1 : ptCtF c83_0 c83_0_e (pkP (c83_0_pts ++ []) [1]) (noF, noM, 16, 0, 44) 3000 c83_0_p1 = true := by decide +kernel
set_option maxRecDepth 100000 in
theorem c83_0_v : ValidC PPk c83_0 := ct_ok fpk ⟨noF_ok, noM_ok⟩ (d := 2) (ext := []) (pts := c83_0_pts) (env := c83_0_e) rfl (List.forall_mem_cons.mpr ⟨⟨c84_0_v, Nat.le_of_ble_eq_true rfl⟩, List.forall_mem_cons.mpr ⟨⟨c85_0_v, Nat.le_of_ble_eq_true rfl⟩, List.forall_mem_cons.mpr ⟨⟨c86_0_v, Nat.le_of_ble_eq_true rfl⟩, fun _ h => (by cases h)⟩⟩⟩) ext_nil (fun q h => (by cases h)) (enF c83_0_k) (List.forall_mem_cons.mpr ⟨⟨_, ptF c83_0_k0⟩, List.forall_mem_cons.mpr ⟨⟨_, ptF c83_0_k1⟩, fun _ h => (by cases h)⟩⟩)

noncomputable def zc269 : AC := qoC 6 [qvS 36, qvR 33, qvR 34, qvR 35, qvR 36, qvR 37]
noncomputable def zc270 : AC := qoC 8 [qvR 46, qvS 58, qvS 59, qvS 60, qvS 61]
noncomputable def zc271 : AC := qoC 8 [qvR 50, qvS 68, qvS 69, qvS 70, qvS 71]
noncomputable def zc272 : AC := qoC 8 [qvR 52, qvS 73, qvS 74, qvS 75, qvS 76]
noncomputable def zc273 : AC := qoC 9 [qvR 54, qvR 55, qvR 56, qvS 78]
noncomputable def c82_0 : Ct := (82, 4, (84, [qtN 0 1 4, qtA 1, qtA 2, qtN 3 1 1000, qtN 4 0 50, qtN 5 0 10, qtN 6 0 60, qtN 11 0 60, qtN 16 0 8, qtN 24 0 6, qtN 31 0 60, qtA 32, qtN 33 0 60, qtN 34 0 60, qtN 36 0 8, qtA 45, qtA 46, qtA 47, qtA 48, qtA 49, qtA 50, qtN 51 0 3, qtA 52, qtA 53, qtA 54, qtA 55, qtN 56 0 1, qtA 57, qtA 58, qtA 59, qtA 60, qtA 61, qtA 63, qtA 64, qtA 65, qtA 66, qtA 68, qtA 69, qtA 70, qtA 71, qtA 73, qtA 74, qtA 75, qtA 76, qtA 78], [], [qvR 0, qvR 43], [zc11, zc31, qrC 4 [some 3, some 8], zc32, qkC 100 7, qkC 100 8, qkC 100 9, qkC 100 10, zc33, qkC 100 12, qkC 100 13, qkC 100 14, qkC 100 15, zc34, qkC 100 17, qkC 100 18, qkC 100 19, qkC 100 20, qkC 100 21, qkC 100 22, qkC 100 23, zc35, qkC 100 25, qkC 100 26, qkC 100 27, qkC 100 28, qkC 100 29, qkC 100 30, zc36, qkC 102 35, qiC 0 [qgA 60], qjC 1 60, zc269, qkC 100 37, qkC 100 38, qkC 100 39, qkC 100 40, qkC 100 41, qkC 100 42, qkC 100 43, qkC 100 44, qjC 1 6, qjC 1 4, qoC 7 [qvR 44, qvS 45, qvR 53, qvR 57, qvR 58, qvS 46, qvS 47, qvS 48, qvS 49, qvS 50, qvS 51, qvS 52, qvS 53, qvS 54, qvS 55, qvS 56, qvS 57], zc204, zc270, qkC 100 62, zc255, qkC 100 67, zc271, qkC 100 72, zc272, qkC 100 77, zc273, qkC 100 79, qkC 100 80, qkC 100 81, qkC 100 82, qkC 100 83], [(0, [9, 10, 11, 12], []), (0, [4, 5, 6, 7], [])]),
  [((85, [qtN 84 0 3], [], [], [zc11, zc31, qrC 4 [some 3, some 8], zc32, qkC 100 7, qkC 100 8, qkC 100 9, qkC 100 10, zc33, qkC 100 12, qkC 100 13, qkC 100 14, qkC 100 15, zc34, qkC 100 17, qkC 100 18, qkC 100 19, qkC 100 20, qkC 100 21, qkC 100 22, qkC 100 23, zc35, qkC 100 25, qkC 100 26, qkC 100 27, qkC 100 28, qkC 100 29, qkC 100 30, zc36, qkC 102 35, qiC 0 [qgA 60], qjC 1 60, zc269, qkC 100 37, qkC 100 38, qkC 100 39, qkC 100 40, qkC 100 41, qkC 100 42, qkC 100 43, qkC 100 44, qjC 1 6, qjC 1 4, qoC 7 [qvR 44, qvS 45, qvR 53, qvR 57, qvR 58, qvS 46, qvS 47, qvS 48, qvS 49, qvS 50, qvS 84, qvS 52, qvS 53, qvS 54, qvS 55, qvS 56, qvS 57], zc204, zc270, qkC 100 62, zc255, qkC 100 67, zc271, qkC 100 72, zc272, qkC 100 77, zc273, qkC 100 79, qkC 100 80, qkC 100 81, qkC 100 82, qkC 100 83], [(0, [9, 10, 11, 12], []), (0, [4, 5, 6, 7], [])]), 0, 0)])
noncomputable def c82_0_e : List Ct := [c78_0, c83_0]
noncomputable def c82_0_pts : List PE := []
set_option maxRecDepth 100000 in
theorem c82_0_k : enCtF c82_0 c82_0_e (pkP (c82_0_pts ++ []) []) (none) noH 3000 = true := by decide +kernel
set_option maxRecDepth 100000 in
theorem c82_0_v : ValidC PPk c82_0 := ct_ok fpk noH_ok (d := 3) (ext := []) (pts := c82_0_pts) (env := c82_0_e) rfl (List.forall_mem_cons.mpr ⟨⟨c78_0_v, Nat.le_of_ble_eq_true rfl⟩, List.forall_mem_cons.mpr ⟨⟨c83_0_v, Nat.le_of_ble_eq_true rfl⟩, fun _ h => (by cases h)⟩⟩) ext_nil (fun q h => (by cases h)) (enF c82_0_k) (fun _ h => (by cases h))

noncomputable def zc274 : AC := qoC 8 [qvR 46, qvS 59, qvS 60, qvS 85, qvS 86]
noncomputable def zc275 : AC := qoC 8 [qvR 48, qvS 64, qvS 65, qvS 87, qvS 88]
noncomputable def zc276 : AC := qoC 8 [qvR 50, qvS 69, qvS 70, qvS 89, qvS 90]
noncomputable def zh277 : AH := [zc11, zc31, qrC 4 [some 3, some 8], zc32, qkC 100 7, qkC 100 8, qkC 100 9, qkC 100 10, zc33, qkC 100 12, qkC 100 13, qkC 100 14, qkC 100 15, zc34, qkC 100 17, qkC 100 18, qkC 100 19, qkC 100 20, qkC 100 21, qkC 100 22, qkC 100 23, zc35, qkC 100 25, qkC 100 26, qkC 100 27, qkC 100 28, qkC 100 29, qkC 100 30, zc36, qkC 102 35, qkC 100 36, qjC 1 60, zc37, qkC 100 38, qkC 100 39, qkC 100 40, qkC 100 41, qkC 100 42, qkC 100 43, qkC 100 44, qkC 100 45, qjC 1 6, qjC 1 4, zc241, zc204, zc274, qkC 100 63, zc275, qkC 100 68, zc276, qkC 100 73, qoC 8 [qvR 52, qvS 74, qvS 75, qvS 91, qvS 92], qkC 100 78, zc246, qkC 100 80, qkC 100 81, qkC 100 82, qkC 100 83, qkC 100 84]
noncomputable def c87_0 : Ct := (87, 1, (85, (zt15 []), [], [qvR 0, qvR 43], zh247, [(0, [9, 10, 11, 12], []), (0, [4, 5, 6, 7], [])]),
  [((93, [(85, (.negSucc 2147483647), (.ofNat 2147483646)), (86, (.negSucc 2147483647), (.ofNat 2147483646)), qtA 87, qtA 88, qtA 89, qtA 90, qtA 91, qtA 92], [], [], zh277, [(0, [9, 10, 11, 12], []), (0, [4, 5, 6, 7], [])]), 0, 0)])
noncomputable def c87_0_e : List Ct := []
noncomputable def c87_0_p0 : PE := (2, [0, 1, 2], (85, (zt15 []), [], [qvR 0, qvR 43, qvK (.ofNat 0)], zh247, [(0, [9, 10, 11, 12], []), (0, [4, 5, 6, 7], [])]), symsL 85 0, some ((.ofNat 9), []), 0, 0)
noncomputable def c87_0_p1 : PE := (2, [0, 1, 2, 3], (87, (zt15 [(85, (.negSucc 2147483647), (.ofNat 2147483646)), (86, (.negSucc 2147483647), (.ofNat 2147483646))]), [], [qvR 0, qvR 43, qvK (.ofNat 1), qvR 45], [zc11, zc31, qrC 4 [some 3, some 8], zc32, qkC 100 7, qkC 100 8, qkC 100 9, qkC 100 10, zc33, qkC 100 12, qkC 100 13, qkC 100 14, qkC 100 15, zc34, qkC 100 17, qkC 100 18, qkC 100 19, qkC 100 20, qkC 100 21, qkC 100 22, qkC 100 23, zc35, qkC 100 25, qkC 100 26, qkC 100 27, qkC 100 28, qkC 100 29, qkC 100 30, zc36, qkC 102 35, qkC 100 36, qjC 1 60, zc37, qkC 100 38, qkC 100 39, qkC 100 40, qkC 100 41, qkC 100 42, qkC 100 43, qkC 100 44, qkC 100 45, qjC 1 6, qjC 1 4, zc241, zc204, zc274, qkC 100 63, zc243, qkC 100 68, zc244, qkC 100 73, zc245, qkC 100 78, zc246, qkC 100 80, qkC 100 81, qkC 100 82, qkC 100 83, qkC 100 84], [(0, [9, 10, 11, 12], []), (0, [4, 5, 6, 7], [])]), symsL 85 0, some ((.ofNat 8), []), 0, 0)
noncomputable def c87_0_p2 : PE := (2, [0, 1, 2, 3], (89, [qtN 0 2 4, qtA 1, qtA 2, qtN 3 1 1000, qtN 4 0 50, qtN 5 0 10, qtN 6 0 60, qtN 11 0 60, qtN 16 0 8, qtN 24 0 6, qtN 31 0 60, qtA 32, qtN 33 0 60, qtN 34 0 60, qtN 37 0 8, qtA 46, qtA 47, qtA 48, qtA 49, qtA 50, qtA 51, qtN 52 0 3, qtA 53, qtA 54, qtA 55, qtA 56, qtN 57 0 1, qtA 58, qtA 59, qtA 60, qtA 61, qtA 62, qtA 64, qtA 65, qtA 66, qtA 67, qtA 69, qtA 70, qtA 71, qtA 72, qtA 74, qtA 75, qtA 76, qtA 77, qtA 79, (85, (.negSucc 2147483647), (.ofNat 2147483646)), (86, (.negSucc 2147483647), (.ofNat 2147483646)), (87, (.negSucc 2147483647), (.ofNat 2147483646)), (88, (.negSucc 2147483647), (.ofNat 2147483646))], [], [qvR 0, qvR 43, qvK (.ofNat 2), qvR 47], [zc11, zc31, qrC 4 [some 3, some 8], zc32, qkC 100 7, qkC 100 8, qkC 100 9, qkC 100 10, zc33, qkC 100 12, qkC 100 13, qkC 100 14, qkC 100 15, zc34, qkC 100 17, qkC 100 18, qkC 100 19, qkC 100 20, qkC 100 21, qkC 100 22, qkC 100 23, zc35, qkC 100 25, qkC 100 26, qkC 100 27, qkC 100 28, qkC 100 29, qkC 100 30, zc36, qkC 102 35, qkC 100 36, qjC 1 60, zc37, qkC 100 38, qkC 100 39, qkC 100 40, qkC 100 41, qkC 100 42, qkC 100 43, qkC 100 44, qkC 100 45, qjC 1 6, qjC 1 4, zc241, zc204, zc274, qkC 100 63, zc275, qkC 100 68, zc244, qkC 100 73, zc245, qkC 100 78, zc246, qkC 100 80, qkC 100 81, qkC 100 82, qkC 100 83, qkC 100 84], [(0, [9, 10, 11, 12], []), (0, [4, 5, 6, 7], [])]), symsL 85 0, some ((.ofNat 7), []), 0, 0)
noncomputable def c87_0_p3 : PE := (2, [0, 1, 2, 3], (91, [qtN 0 3 4, qtA 1, qtA 2, qtN 3 1 1000, qtN 4 0 50, qtN 5 0 10, qtN 6 0 60, qtN 11 0 60, qtN 16 0 8, qtN 24 0 6, qtN 31 0 60, qtA 32, qtN 33 0 60, qtN 34 0 60, qtN 37 0 8, qtA 46, qtA 47, qtA 48, qtA 49, qtA 50, qtA 51, qtN 52 0 3, qtA 53, qtA 54, qtA 55, qtA 56, qtN 57 0 1, qtA 58, qtA 59, qtA 60, qtA 61, qtA 62, qtA 64, qtA 65, qtA 66, qtA 67, qtA 69, qtA 70, qtA 71, qtA 72, qtA 74, qtA 75, qtA 76, qtA 77, qtA 79, (85, (.negSucc 2147483647), (.ofNat 2147483646)), (86, (.negSucc 2147483647), (.ofNat 2147483646)), (87, (.negSucc 2147483647), (.ofNat 2147483646)), (88, (.negSucc 2147483647), (.ofNat 2147483646)), (89, (.negSucc 2147483647), (.ofNat 2147483646)), (90, (.negSucc 2147483647), (.ofNat 2147483646))], [], [qvR 0, qvR 43, qvK (.ofNat 3), qvR 49], [zc11, zc31, qrC 4 [some 3, some 8], zc32, qkC 100 7, qkC 100 8, qkC 100 9, qkC 100 10, zc33, qkC 100 12, qkC 100 13, qkC 100 14, qkC 100 15, zc34, qkC 100 17, qkC 100 18, qkC 100 19, qkC 100 20, qkC 100 21, qkC 100 22, qkC 100 23, zc35, qkC 100 25, qkC 100 26, qkC 100 27, qkC 100 28, qkC 100 29, qkC 100 30, zc36, qkC 102 35, qkC 100 36, qjC 1 60, zc37, qkC 100 38, qkC 100 39, qkC 100 40, qkC 100 41, qkC 100 42, qkC 100 43, qkC 100 44, qkC 100 45, qjC 1 6, qjC 1 4, zc241, zc204, zc274, qkC 100 63, zc275, qkC 100 68, zc276, qkC 100 73, zc245, qkC 100 78, zc246, qkC 100 80, qkC 100 81, qkC 100 82, qkC 100 83, qkC 100 84], [(0, [9, 10, 11, 12], []), (0, [4, 5, 6, 7], [])]), symsL 85 0, some ((.ofNat 6), []), 0, 0)
noncomputable def c87_0_p4 : PE := (2, [0, 1, 2, 3], (93, [qtN 0 4 4, qtA 1, qtA 2, qtN 3 1 1000, qtN 4 0 50, qtN 5 0 10, qtN 6 0 60, qtN 11 0 60, qtN 16 0 8, qtN 24 0 6, qtN 31 0 60, qtA 32, qtN 33 0 60, qtN 34 0 60, qtN 37 0 8, qtA 46, qtA 47, qtA 48, qtA 49, qtA 50, qtA 51, qtN 52 0 3, qtA 53, qtA 54, qtA 55, qtA 56, qtN 57 0 1, qtA 58, qtA 59, qtA 60, qtA 61, qtA 62, qtA 64, qtA 65, qtA 66, qtA 67, qtA 69, qtA 70, qtA 71, qtA 72, qtA 74, qtA 75, qtA 76, qtA 77, qtA 79, (85, (.negSucc 2147483647), (.ofNat 2147483646)), (86, (.negSucc 2147483647), (.ofNat 2147483646)), (87, (.negSucc 2147483647), (.ofNat 2147483646)), (88, (.negSucc 2147483647), (.ofNat 2147483646)), (89, (.negSucc 2147483647), (.ofNat 2147483646)), (90, (.negSucc 2147483647), (.ofNat 2147483646)), (91, (.negSucc 2147483647), (.ofNat 2147483646)), (92, (.negSucc 2147483647), (.ofNat 2147483646))], [], [qvR 0, qvR 43, qvK (.ofNat 4), qvR 51], zh277, [(0, [9, 10, 11, 12], []), (0, [4, 5, 6, 7], [])]), symsL 85 0, some ((.ofNat 5), []), 0, 0)
noncomputable def c87_0_pts : List PE := [c87_0_p0, c87_0_p1, c87_0_p2, c87_0_p3, c87_0_p4]
set_option maxRecDepth 100000 in
theorem c87_0_k : enCtF c87_0 c87_0_e (pkP (c87_0_pts ++ []) [0]) (none) (noF, noM, 4, 0, 85) 3000 = true := by decide +kernel
set_option maxRecDepth 100000 in
theorem c87_0_k0 : ptCtF c87_0 c87_0_e (pkP (c87_0_pts ++ []) [1]) (noF, noM, 4, 0, 85) 3000 c87_0_p0 = true := by decide +kernel
set_option maxRecDepth 100000 in
theorem c87_0_k1 : ptCtF c87_0 c87_0_e (pkP (c87_0_pts ++ []) [2]) (noF, noM, 4, 0, 85) 3000 c87_0_p1 = true := by decide +kernel
set_option maxRecDepth 100000 in
theorem c87_0_k2 : ptCtF c87_0 c87_0_e (pkP (c87_0_pts ++ []) [3]) (noF, noM, 4, 0, 85) 3000 c87_0_p2 = true := by decide +kernel
set_option maxRecDepth 100000 in
theorem c87_0_k3 : ptCtF c87_0 c87_0_e (pkP (c87_0_pts ++ []) [4]) (noF, noM, 4, 0, 85) 3000 c87_0_p3 = true := by decide +kernel
set_option maxRecDepth 100000 in
theorem c87_0_k4 : ptCtF c87_0 c87_0_e (pkP (c87_0_pts ++ []) []) (noF, noM, 4, 0, 85) 3000 c87_0_p4 = true := by decide +kernel
set_option maxRecDepth 100000 in
theorem c87_0_v : ValidC PPk c87_0 := ct_ok fpk ⟨noF_ok, noM_ok⟩ (d := 0) (ext := []) (pts := c87_0_pts) (env := c87_0_e) rfl (fun _ h => (by cases h)) ext_nil (fun q h => (by cases h)) (enF c87_0_k) (List.forall_mem_cons.mpr ⟨⟨_, ptF c87_0_k0⟩, List.forall_mem_cons.mpr ⟨⟨_, ptF c87_0_k1⟩, List.forall_mem_cons.mpr ⟨⟨_, ptF c87_0_k2⟩, List.forall_mem_cons.mpr ⟨⟨_, ptF c87_0_k3⟩, List.forall_mem_cons.mpr ⟨⟨_, ptF c87_0_k4⟩, fun _ h => (by cases h)⟩⟩⟩⟩⟩)

noncomputable def zc278 : AC := qoC 4 [qvS 10, qvR 22, qvR 23, qvR 24, qvR 25]
noncomputable def zc279 : AC := qoC 5 [qvS 12, qvR 29, qvS 13, qvS 14, qvS 15, qvR 30, qvR 31]
noncomputable def zc280 : AC := qoC 6 [qvS 17, qvR 33, qvR 34, qvR 35, qvR 36, qvR 37]
noncomputable def zh281 : AH := [zc11, zc31, qrC 4 [some 3, some 8], zc32, qiC 0 [qgA 60], qiC 0 [qgA 60], qiC 0 [qgA 60], qiC 0 [qgA 60], zc56, qiC 0 [qgA 60], qiC 0 [qgA 60], qiC 0 [qgA 60], qiC 0 [qgA 60], zc57, qiC 0 [qgN 6 0 60], qiC 0 [qgN 6 0 60], qiC 0 [qgN 8 0 5], qkC 100 9, qiC 0 [qgN 8 0 40], qiC 0 [qgA 8], qiC 0 [qgA 8], zc278, qiC 0 [qgA 6], qiC 0 [qgA 6], qiC 0 [qgA 6], qkC 100 11, qiC 0 [qgA 4], qiC 0 [qgA 4], zc279, qkC 102 16, qiC 0 [qgA 60], qjC 1 60, zc280, qiC 0 [qgA 8], qiC 0 [qgA 8], qiC 0 [qgN 8 0 5], qiC 0 [qgN 8 0 11], qiC 0 [qgA 8], qkC 100 18, qkC 100 19, qkC 100 20, qjC 1 6, qjC 1 4, qoC 7 [qvR 44, qvS 21, qvR 53, qvR 57, qvR 58, qvS 22, qvS 23, qvS 24, qvS 25, qvS 26, qvS 27, qvS 28, qvS 29, qvS 30, qvS 31, qvS 32, qvS 33], zc204, qoC 8 [qvR 46, qvS 34, qvS 35, qvS 36, qvS 37], qiC 0 [qgA 12], qoC 8 [qvR 48, qvS 38, qvS 39, qvS 40, qvS 41], qiC 0 [qgA 12], qoC 8 [qvR 50, qvS 42, qvS 43, qvS 44, qvS 45], qiC 0 [qgA 12], qoC 8 [qvR 52, qvS 46, qvS 47, qvS 48, qvS 49], qiC 0 [qgA 12], qoC 9 [qvR 54, qvR 55, qvR 56, qvS 50], qiC 0 [qgA 32], qiC 0 [qgA 8], qiC 0 [qgA 8], qiC 0 [qgA 2], qiC 0 [qgA 6]]
noncomputable def c50_0 : Ct := (50, 5, (51, [qtN 0 1 4, qtA 1, qtA 2, qtN 3 1 1000, qtN 4 0 50, qtN 5 0 10, qtN 6 0 60, qtN 7 0 60, qtN 8 0 8, qtN 10 0 6, qtN 12 0 60, qtA 13, qtN 14 0 60, qtN 15 0 60, qtN 17 0 8, qtA 21, qtA 22, qtA 23, qtA 24, qtA 25, qtA 26, qtN 27 0 3, qtN 28 0 70000, qtA 29, qtA 30, qtA 31, qtN 32 0 1, qtA 33, qtA 34, qtA 35, qtA 36, qtA 37, qtA 38, qtA 39, qtA 40, qtA 41, qtA 42, qtA 43, qtA 44, qtA 45, qtA 46, qtA 47, qtA 48, qtA 49, qtA 50], [], [qvR 0, qvR 43], zh281, [(0, [9, 10, 11, 12], []), (0, [4, 5, 6, 7], [])]),
  [((80, [qtA 51, qtA 52, qtN 53 0 1000000, (54, (.negSucc 999999), (.ofNat 1000000)), qtA 55, qtA 56, qtN 57 0 3, qtA 58, qtA 59, qtA 60, qtN 61 0 1, qtA 62, qtA 63, qtA 64, (65, (.negSucc 2147483647), (.ofNat 2147483646)), (66, (.negSucc 2147483647), (.ofNat 2147483646)), qtA 67, qtA 68, qtA 69, qtA 70, qtA 71, qtA 72, qtA 73, qtA 74, qtA 75, qtA 76, qtA 77, qtA 78, qtA 79], [], [], [zc11, zc31, qrC 4 [some 3, some 8], zc32, qiC 0 [qgA 60], qiC 0 [qgA 60], qiC 0 [qgA 60], qiC 0 [qgA 60], zc56, qiC 0 [qgA 60], qiC 0 [qgA 60], qiC 0 [qgA 60], qiC 0 [qgA 60], zc57, qiC 0 [qgN 6 0 60], qiC 0 [qgN 6 0 60], qiC 0 [qgN 8 0 5], qkC 100 9, qiC 0 [qgN 8 0 40], qiC 0 [qgA 8], qiC 0 [qgA 8], zc278, qiC 0 [qgA 6], qiC 0 [qgA 6], qiC 0 [qgA 6], qkC 100 11, qiC 0 [qgA 4], qiC 0 [qgA 4], zc279, qkC 102 16, qiC 0 [qgA 60], qjC 1 60, zc280, qiC 0 [qgA 8], qiC 0 [qgA 8], qiC 0 [qgN 8 0 5], qiC 0 [qgN 8 0 11], qiC 0 [qgA 8], qkC 100 18, qkC 100 19, qkC 100 20, qjC 1 6, qjC 1 4, qoC 7 [qvR 44, qvS 51, qvR 53, qvR 57, qvR 58, qvS 52, qvS 53, qvS 54, qvS 55, qvS 56, qvS 57, .inl (false, ((.ofNat 1), [(28, (.ofNat 1))])), qvS 58, qvS 59, qvS 60, qvS 61, qvS 62], zc204, zc41, qiC 0 [qgA 12], zc42, qiC 0 [qgA 12], zc43, qiC 0 [qgA 12], qoC 8 [qvR 52, qvS 75, qvS 76, qvS 77, qvS 78], qiC 0 [qgA 12], zc246, qiC 0 [qgA 32], qiC 0 [qgA 8], qiC 0 [qgA 8], qiC 0 [qgA 2], qiC 0 [qgA 6]], [(0, [9, 10, 11, 12], []), (0, [4, 5, 6, 7], [])]), 0, 0)])
noncomputable def c50_0_e : List Ct := [c51_0, c52_0, c55_0, c58_0, c66_0, c76_0, c77_0, c79_0, c80_0, c82_0, c87_0]
noncomputable def c50_0_pts : List PE := []
set_option maxRecDepth 100000 in
theorem c50_0_k : enCtF c50_0 c50_0_e (pkP (c50_0_pts ++ []) []) (none) noH 3000 = true := by decide +kernel
set_option maxRecDepth 100000 in
theorem c50_0_v : ValidC PPk c50_0 := ct_ok fpk noH_ok (d := 4) (ext := []) (pts := c50_0_pts) (env := c50_0_e) rfl (List.forall_mem_cons.mpr ⟨⟨c51_0_v, Nat.le_of_ble_eq_true rfl⟩, List.forall_mem_cons.mpr ⟨⟨c52_0_v, Nat.le_of_ble_eq_true rfl⟩, List.forall_mem_cons.mpr ⟨⟨c55_0_v, Nat.le_of_ble_eq_true rfl⟩, List.forall_mem_cons.mpr ⟨⟨c58_0_v, Nat.le_of_ble_eq_true rfl⟩, List.forall_mem_cons.mpr ⟨⟨c66_0_v, Nat.le_of_ble_eq_true rfl⟩, List.forall_mem_cons.mpr ⟨⟨c76_0_v, Nat.le_of_ble_eq_true rfl⟩, List.forall_mem_cons.mpr ⟨⟨c77_0_v, Nat.le_of_ble_eq_true rfl⟩, List.forall_mem_cons.mpr ⟨⟨c79_0_v, Nat.le_of_ble_eq_true rfl⟩, List.forall_mem_cons.mpr ⟨⟨c80_0_v, Nat.le_of_ble_eq_true rfl⟩, List.forall_mem_cons.mpr ⟨⟨c82_0_v, Nat.le_of_ble_eq_true rfl⟩, List.forall_mem_cons.mpr ⟨⟨c87_0_v, Nat.le_of_ble_eq_true rfl⟩, fun _ h => (by cases h)⟩⟩⟩⟩⟩⟩⟩⟩⟩⟩⟩) ext_nil (fun q h => (by cases h)) (enF c50_0_k) (fun _ h => (by cases h))

noncomputable def zt101 (r : TbL) : TbL := qtN 0 1 4 :: qtA 1 :: qtA 2 :: qtN 3 1 1000 :: qtN 4 0 50 :: qtN 5 0 10 :: qtN 6 0 60 :: qtN 7 0 60 :: qtN 8 0 8 :: qtN 10 0 6 :: qtN 12 0 60 :: qtA 13 :: qtN 14 0 60 :: qtN 15 0 60 :: qtN 17 0 8 :: qtA 21 :: qtA 22 :: qtA 23 :: qtA 24 :: qtA 25 :: qtA 26 :: qtN 27 0 3 :: qtN 28 0 60000 :: qtA 29 :: qtA 30 :: qtA 31 :: qtN 32 0 1 :: qtA 33 :: qtA 34 :: qtA 35 :: qtA 36 :: qtA 37 :: qtA 38 :: qtA 39 :: qtA 40 :: qtA 41 :: qtA 42 :: qtA 43 :: qtA 44 :: qtA 45 :: qtA 46 :: qtA 47 :: qtA 48 :: qtA 49 :: qtA 50 :: r
noncomputable def zc282 : AC := qoC 7 [qvR 42, qvS 21, qvR 51, qvR 55, qvR 56, qvS 22, qvS 23, qvS 24, qvS 25, qvS 26, qvS 27, qvS 28, qvS 29, qvS 30, qvS 31, qvS 32, qvS 33]
noncomputable def zc283 : AC := qoC 8 [qvR 44, qvS 34, qvS 35, qvS 36, qvS 37]
noncomputable def zc284 : AC := qoC 8 [qvR 46, qvS 38, qvS 39, qvS 40, qvS 41]
noncomputable def zc285 : AC := qoC 8 [qvR 48, qvS 42, qvS 43, qvS 44, qvS 45]
noncomputable def zc286 : AC := qoC 8 [qvR 50, qvS 46, qvS 47, qvS 48, qvS 49]
noncomputable def zc287 : AC := qoC 9 [qvR 52, qvR 53, qvR 54, qvS 50]
noncomputable def zh288 : AH := [zc12, zc31, qrC 4 [some 3, some 8], zc32, qiC 0 [qgA 60], qiC 0 [qgA 60], qiC 0 [qgA 60], qiC 0 [qgA 60], zc56, qiC 0 [qgA 60], qiC 0 [qgA 60], qiC 0 [qgA 60], qiC 0 [qgA 60], zc57, qiC 0 [qgN 6 0 60], qiC 0 [qgN 6 0 60], qiC 0 [qgN 8 0 5], qkC 100 9, qiC 0 [qgN 8 0 40], qiC 0 [qgA 8], qiC 0 [qgA 8], zc278, qiC 0 [qgA 6], qiC 0 [qgA 6], qiC 0 [qgA 6], qkC 100 11, qiC 0 [qgA 4], qiC 0 [qgA 4], zc279, qkC 102 16, qiC 0 [qgA 60], qjC 1 60, zc280, qiC 0 [qgA 8], qiC 0 [qgA 8], qiC 0 [qgN 8 0 5], qiC 0 [qgN 8 0 11], qiC 0 [qgA 8], qkC 100 18, qkC 100 19, qkC 100 20, zc282, zc39, zc283, qiC 0 [qgA 12], zc284, qiC 0 [qgA 12], zc285, qiC 0 [qgA 12], zc286, qiC 0 [qgA 12], zc287, qiC 0 [qgA 32], qiC 0 [qgA 8], qiC 0 [qgA 8], qiC 0 [qgA 2], qiC 0 [qgA 6], zc13, qjC 1 6, qjC 1 4, qrC 6 [none, none], qrC 7 [none, none]]
noncomputable def c49_0 : Ct := (49, 6, (52, (zt101 [qtA 51]), [], [qvR 0, qvS 51], zh288, [(0, [9, 10, 11, 12], []), (0, [4, 5, 6, 7], [])]),
  [((52, [(51, (.negSucc 2147483647), (.ofNat 0))], [], [qvK (.negSucc 1999)], zh288, [(0, [9, 10, 11, 12], []), (0, [4, 5, 6, 7], [])]), 0, 0),
   ((52, [qtN 51 101 2147483647], [], [qvK (.negSucc 1999)], zh288, [(0, [9, 10, 11, 12], []), (0, [4, 5, 6, 7], [])]), 0, 0),
   ((81, [qtN 51 1 100, qtA 52, qtA 53, qtA 54, qtA 55, qtA 56, qtA 57, qtN 58 0 3, qtA 59, qtA 60, qtA 61, qtN 62 0 1, qtA 63, qtA 64, qtA 65, qtA 66, qtA 67, qtA 68, qtA 69, qtA 70, qtA 71, qtA 72, qtA 73, qtA 74, qtA 75, qtA 76, qtA 77, qtA 78, qtA 79, qtA 80], [], [qvS 52], [zc12, zc31, qrC 4 [some 3, some 8], zc32, qiC 0 [qgA 60], qiC 0 [qgA 60], qiC 0 [qgA 60], qiC 0 [qgA 60], zc56, qiC 0 [qgA 60], qiC 0 [qgA 60], qiC 0 [qgA 60], qiC 0 [qgA 60], zc57, qiC 0 [qgN 6 0 60], qiC 0 [qgN 6 0 60], qiC 0 [qgN 8 0 5], qkC 100 9, qiC 0 [qgN 8 0 40], qiC 0 [qgA 8], qiC 0 [qgA 8], zc278, qiC 0 [qgA 6], qiC 0 [qgA 6], qiC 0 [qgA 6], qkC 100 11, qiC 0 [qgA 4], qiC 0 [qgA 4], zc279, qkC 102 16, qiC 0 [qgA 60], qjC 1 60, zc280, qiC 0 [qgA 8], qiC 0 [qgA 8], qiC 0 [qgN 8 0 5], qiC 0 [qgN 8 0 11], qiC 0 [qgA 8], qkC 100 18, qkC 100 19, qkC 100 20, qoC 7 [qvR 42, qvS 53, qvR 51, qvR 55, qvR 56, qvS 54, qvS 55, qvS 56, qvS 57, qvS 52, qvS 58, .inl (false, ((.ofNat 0), [(28, (.ofNat 1)), (51, (.ofNat 1))])), qvS 59, qvS 60, qvS 61, qvS 62, qvS 63], zc39, qoC 8 [qvR 44, qvS 64, qvS 65, qvS 66, qvS 67], qiC 0 [qgA 12], qoC 8 [qvR 46, qvS 68, qvS 69, qvS 70, qvS 71], qiC 0 [qgA 12], qoC 8 [qvR 48, qvS 72, qvS 73, qvS 74, qvS 75], qiC 0 [qgA 12], qoC 8 [qvR 50, qvS 76, qvS 77, qvS 78, qvS 79], qiC 0 [qgA 12], qoC 9 [qvR 52, qvR 53, qvR 54, qvS 80], qiC 0 [qgA 32], qiC 0 [qgA 8], qiC 0 [qgA 8], qiC 0 [qgA 2], qiC 0 [qgA 6], zc13, qjC 1 6, qjC 1 4, qrC 6 [none, none], qrC 7 [none, none]], [(0, [9, 10, 11, 12], []), (0, [4, 5, 6, 7], [])]), 0, 0)])
noncomputable def c49_0_e : List Ct := [c12_0, c50_0]
noncomputable def c49_0_p0 : PE := (16, [0, 1, 2], (82, (zt101 [qtN 51 1 100, qtN 52 0 100, qtA 53, qtA 54, qtA 55, qtA 56, qtA 57, qtA 58, qtN 59 0 3, qtA 60, qtA 61, qtA 62, qtN 63 0 1, qtA 64, qtA 65, qtA 66, qtA 67, qtA 68, qtA 69, qtA 70, qtA 71, qtA 72, qtA 73, qtA 74, qtA 75, qtA 76, qtA 77, qtA 78, qtA 79, qtA 80, qtA 81]), [((.ofNat 0), [(51, (.negSucc 0)), (52, (.ofNat 1))])], [qvR 0, qvS 51, qvS 52], [zc12, zc31, qrC 4 [some 3, some 8], zc32, qiC 0 [qgA 60], qiC 0 [qgA 60], qiC 0 [qgA 60], qiC 0 [qgA 60], zc56, qiC 0 [qgA 60], qiC 0 [qgA 60], qiC 0 [qgA 60], qiC 0 [qgA 60], zc57, qiC 0 [qgN 6 0 60], qiC 0 [qgN 6 0 60], qiC 0 [qgN 8 0 5], qkC 100 9, qiC 0 [qgN 8 0 40], qiC 0 [qgA 8], qiC 0 [qgA 8], zc278, qiC 0 [qgA 6], qiC 0 [qgA 6], qiC 0 [qgA 6], qkC 100 11, qiC 0 [qgA 4], qiC 0 [qgA 4], zc279, qkC 102 16, qiC 0 [qgA 60], qjC 1 60, zc280, qiC 0 [qgA 8], qiC 0 [qgA 8], qiC 0 [qgN 8 0 5], qiC 0 [qgN 8 0 11], qiC 0 [qgA 8], qkC 100 18, qkC 100 19, qkC 100 20, qoC 7 [qvR 42, qvS 53, qvR 51, qvR 55, qvR 56, qvS 54, qvS 55, qvS 56, qvS 57, qvS 58, qvS 59, .inl (false, ((.ofNat 0), [(28, (.ofNat 1)), (52, (.ofNat 1))])), qvS 60, qvS 61, qvS 62, qvS 63, qvS 64], zc39, qoC 8 [qvR 44, qvS 65, qvS 66, qvS 67, qvS 68], qiC 0 [qgA 12], qoC 8 [qvR 46, qvS 69, qvS 70, qvS 71, qvS 72], qiC 0 [qgA 12], qoC 8 [qvR 48, qvS 73, qvS 74, qvS 75, qvS 76], qiC 0 [qgA 12], qoC 8 [qvR 50, qvS 77, qvS 78, qvS 79, qvS 80], qiC 0 [qgA 12], qoC 9 [qvR 52, qvR 53, qvR 54, qvS 81], qiC 0 [qgA 32], qiC 0 [qgA 8], qiC 0 [qgA 8], qiC 0 [qgA 2], qiC 0 [qgA 6], zc13, qjC 1 6, qjC 1 4, qrC 6 [none, none], qrC 7 [none, none]], [(0, [9, 10, 11, 12], []), (0, [4, 5, 6, 7], [])]), symsL 52 0, some ((.ofNat 201), [(52, (.negSucc 0))]), 0, 0)
noncomputable def c49_0_pts : List PE := [c49_0_p0]
set_option maxRecDepth 100000 in
theorem c49_0_k : enCtF c49_0 c49_0_e (pkP (c49_0_pts ++ []) [0]) (none) (noF, noM, 65536, 0, 52) 3000 = true := by decide +kernel
set_option maxRecDepth 100000 in
theorem c49_0_k0 : ptCtF c49_0 c49_0_e (pkP (c49_0_pts ++ []) [0]) (noF, noM, 65536, 0, 52) 3000 c49_0_p0 = true := by decide +kernel
set_option maxRecDepth 100000 in
theorem c49_0_v : ValidC PPk c49_0 := ct_ok fpk ⟨noF_ok, noM_ok⟩ (d := 5) (ext := []) (pts := c49_0_pts) (env := c49_0_e) rfl (List.forall_mem_cons.mpr ⟨⟨c12_0_v, Nat.le_of_ble_eq_true rfl⟩, List.forall_mem_cons.mpr ⟨⟨c50_0_v, Nat.le_of_ble_eq_true rfl⟩, fun _ h => (by cases h)⟩⟩) ext_nil (fun q h => (by cases h)) (enF c49_0_k) (List.forall_mem_cons.mpr ⟨⟨_, ptF c49_0_k0⟩, fun _ h => (by cases h)⟩)

noncomputable def c171_0 : Ct := (171, 1, (33, (zt2 []), [((.ofNat 1), [(19, (.negSucc 0)), (20, (.negSucc 0)), (21, (.negSucc 0)), (22, (.negSucc 0))])], [qvR 0], zh48, [(2, [1], []), (1, [1], [])]),
  [((35, [qtN 33 0 60, qtN 34 0 60], [], [], [zc46, qiC 0 [qgS 10, qgS 33, qgS 12, qgS 13, qgS 14, qgS 15, qgS 34, qgS 17, qgA 5, qgN 1 0 3, qgS 18, qgA 2, qgN 1 1 1000, qgN 1 0 50, qgA 23, qgS 19, qgA 39, qgS 20, qgA 39, qgS 21, qgA 39, qgS 22, qgA 517, qgN 12 0 60, qgN 1 0 5, qgN 1 0 39, qgN 1 0 40, qgN 1 0 5, qgN 1 0 39, qgN 1 0 40, qgN 1 0 5, qgN 1 0 39, qgN 1 0 40, qgN 1 0 5, qgN 1 0 39, qgN 1 0 40, qgN 1 0 5, qgN 1 0 39, qgN 1 0 40, qgN 1 0 5, qgN 1 0 39, qgN 1 0 40, qgN 1 0 5, qgN 1 0 39, qgN 1 0 40, qgN 1 0 5, qgN 1 0 39, qgN 1 0 40, qgA 78, qgN 1 0 5, qgA 4, qgN 1 0 5, qgA 4, qgN 1 0 5, qgA 4, qgN 1 0 5, qgA 4, qgN 1 0 5, qgA 4, qgN 1 0 5, qgA 4, qgN 1 0 5, qgA 4, qgN 1 0 5, qgA 2, qgN 60 0 127, qgA 18], qkC 100 23, qkC 103 24, qkC 100 25, qkC 100 26, qkC 100 27, qjC 1 70, qjC 1 8, qkC 100 28, qkC 100 29, qkC 100 30, qkC 100 31, qkC 100 32, qjC 1 4], [(1, [1], []), (2, [1], [])]), 0, 0)])
noncomputable def c171_0_e : List Ct := []
noncomputable def c171_0_pts : List PE := []
set_option maxRecDepth 100000 in
theorem c171_0_k : enCtF c171_0 c171_0_e (pkP (c171_0_pts ++ []) []) (none) (noF, (mSwap 19 1 2 12 0 74), 0, 524288, 33) 3000 = true := by decide +kernel
set_option maxRecDepth 100000 in
theorem c171_0_v : ValidC PPk c171_0 := ct_ok fpk ⟨noF_ok, (mSwap_ok 19 1 2 12 0 74)⟩ (d := 0) (ext := []) (pts := c171_0_pts) (env := c171_0_e) rfl (fun _ h => (by cases h)) ext_nil (fun q h => (by cases h)) (enF c171_0_k) (fun _ h => (by cases h))

noncomputable def c173_0 : Ct := (173, 2, (34, (zt2 [qtA 33]), [((.ofNat 1), [(19, (.negSucc 0)), (20, (.negSucc 0)), (21, (.negSucc 0)), (22, (.negSucc 0))])], [qvR 0, qvS 33], zh48, [(1, [1], []), (2, [1], [])]),
  [((34, [(33, (.negSucc 2147483647), (.negSucc 0))], [], [qvK (.ofNat 0)], zh48, [(1, [1], []), (2, [1], [])]), 0, 0),
   ((34, [qtN 33 1 2147483647], [((.ofNat 0), [(10, (.ofNat 1)), (33, (.negSucc 0))])], [qvK (.ofNat 0)], zh48, [(1, [1], []), (2, [1], [])]), 0, 0),
   ((34, [qtN 33 0 3], [((.ofNat 1), [(10, (.negSucc 0)), (33, (.ofNat 1))])], [qvK (.ofNat 1)], zh48, [(1, [1], []), (2, [1], [])]), 0, 0)])
noncomputable def c173_0_e : List Ct := [c145_0]
noncomputable def c173_0_pts : List PE := []
set_option maxRecDepth 100000 in
theorem c173_0_k : enCtF c173_0 c173_0_e (pkP (c173_0_pts ++ []) []) (none) noH 3000 = true := by decide +kernel
set_option maxRecDepth 100000 in
theorem c173_0_v : ValidC PPk c173_0 := ct_ok fpk noH_ok (d := 1) (ext := []) (pts := c173_0_pts) (env := c173_0_e) rfl (List.forall_mem_cons.mpr ⟨⟨c145_0_v, Nat.le_of_ble_eq_true rfl⟩, fun _ h => (by cases h)⟩) ext_nil (fun q h => (by cases h)) (enF c173_0_k) (fun _ h => (by cases h))

noncomputable def c174_0 : Ct := (174, 1, (36, (zt2 [qtN 33 0 3, qtN 34 0 11, qtA 35]), [((.ofNat 1), [(19, (.negSucc 0)), (20, (.negSucc 0)), (21, (.negSucc 0)), (22, (.negSucc 0))])], [qvR 0, qvS 33, qvS 34, qvS 35], zh48, [(1, [1], []), (2, [1], [])]),
  [((36, [], [], [], zh48, [(1, [1], []), (2, [1], [])]), 0, 0)])
noncomputable def c174_0_e : List Ct := []
noncomputable def c174_0_pts : List PE := []
set_option maxRecDepth 100000 in
theorem c174_0_k : enCtF c174_0 c174_0_e (pkP (c174_0_pts ++ []) []) (none) ((hSplit 0 1 ), noM, 0, 1, 36) 3000 = true := by decide +kernel
set_option maxRecDepth 100000 in
theorem c174_0_v : ValidC PPk c174_0 := ct_ok fpk ⟨(hSplit_ok 0 1 ), noM_ok⟩ (d := 0) (ext := []) (pts := c174_0_pts) (env := c174_0_e) rfl (fun _ h => (by cases h)) ext_nil (fun q h => (by cases h)) (enF c174_0_k) (fun _ h => (by cases h))

noncomputable def zh289 : AH := [zc46, qiC 0 [qgS 10, qgS 11, qgS 12, qgS 13, qgS 14, qgS 15, qgS 16, qgS 17, qgA 5, qgN 1 0 3, qgS 18, qgA 2, qgN 1 1 1000, qgN 1 0 50, qgA 23, qgS 19, qgA 39, qgS 20, qgA 39, qgS 21, qgA 39, qgS 22, qgA 517, qgN 12 0 60, qgN 1 0 5, qgN 1 0 39, qgN 1 0 40, qgN 1 0 5, qgN 1 0 39, qgN 1 0 40, qgN 1 0 5, qgN 1 0 39, qgN 1 0 40, qgN 1 0 5, qgN 1 0 39, qgN 1 0 40, qgN 1 0 5, qgN 1 0 39, qgN 1 0 40, qgN 1 0 5, qgN 1 0 39, qgN 1 0 40, qgN 1 0 5, qgN 1 0 39, qgN 1 0 40, qgN 1 0 5, qgN 1 0 39, qgN 1 0 40, qgA 78, qgN 1 0 5, qgA 4, qgN 1 0 5, qgA 4, qgN 1 0 5, qgA 4, qgN 1 0 5, qgA 4, qgN 1 0 5, qgA 4, qgN 1 0 5, qgA 4, qgN 1 0 5, qgA 4, qgN 1 0 5, qgA 2, qgN 60 0 127, qgA 18], qkC 100 23, qkC 103 24, qkC 100 25, qkC 100 26, qkC 100 27, qjC 1 70, qjC 1 8, qkC 100 28, qkC 100 29, qkC 100 30, qkC 100 31, qkC 100 32, qjC 1 4]
noncomputable def c172_0 : Ct := (172, 3, (33, (zt2 []), [((.ofNat 1), [(19, (.negSucc 0)), (20, (.negSucc 0)), (21, (.negSucc 0)), (22, (.negSucc 0))])], [qvR 0], zh48, [(1, [1], []), (2, [1], [])]),
  [((33, [], [], [], zh289, [(1, [1], []), (2, [1], [])]), 0, 0)])
noncomputable def c172_0_e : List Ct := [c173_0, c174_0]
noncomputable def c172_0_p0 : PE := (2, [1, 0], (33, (zt2 []), [((.ofNat 1), [(19, (.negSucc 0)), (20, (.negSucc 0)), (21, (.negSucc 0)), (22, (.negSucc 0))])], [qvK (.ofNat 0), qvR 0], zh48, [(1, [1], []), (2, [1], [])]), symsL 33 0, some ((.ofNat 17), []), 0, 0)
noncomputable def c172_0_p1 : PE := (2, [1, 0, 2, 3], (34, (zt5 [qtN 10 1 4, qtN 11 0 60, qtN 12 0 8, qtN 13 0 6, qtN 14 1 8, qtN 15 0 60, qtN 16 0 60, qtN 17 0 10, qtA 18, qtN 19 0 1, qtN 20 0 1, qtN 21 0 1, qtN 22 0 1, qtN 33 0 5]), [((.ofNat 1), [(19, (.negSucc 0)), (20, (.negSucc 0)), (21, (.negSucc 0)), (22, (.negSucc 0))])], [qvK (.ofNat 1), qvR 0, qvK (.ofNat 792), qvS 33], zh289, [(1, [1], []), (2, [1], [])]), symsL 33 0, some ((.ofNat 16), []), 0, 0)
noncomputable def c172_0_p2 : PE := (2, [1, 0, 2, 3], (34, (zt5 [qtN 10 1 4, qtN 11 0 60, qtN 12 0 8, qtN 13 0 6, qtN 14 2 8, qtN 15 0 60, qtN 16 0 60, qtN 17 0 10, qtA 18, qtN 19 0 1, qtN 20 0 1, qtN 21 0 1, qtN 22 0 1, qtN 33 0 5]), [((.ofNat 1), [(19, (.negSucc 0)), (20, (.negSucc 0)), (21, (.negSucc 0)), (22, (.negSucc 0))])], [qvK (.ofNat 2), qvR 0, qvK (.ofNat 797), qvS 33], zh289, [(1, [1], []), (2, [1], [])]), symsL 33 0, some ((.ofNat 15), []), 0, 0)
noncomputable def c172_0_p3 : PE := (2, [1, 0, 2, 3], (34, (zt5 [qtN 10 1 4, qtN 11 0 60, qtN 12 0 8, qtN 13 0 6, qtN 14 3 8, qtN 15 0 60, qtN 16 0 60, qtN 17 0 10, qtA 18, qtN 19 0 1, qtN 20 0 1, qtN 21 0 1, qtN 22 0 1, qtN 33 0 5]), [((.ofNat 1), [(19, (.negSucc 0)), (20, (.negSucc 0)), (21, (.negSucc 0)), (22, (.negSucc 0))])], [qvK (.ofNat 3), qvR 0, qvK (.ofNat 802), qvS 33], zh289, [(1, [1], []), (2, [1], [])]), symsL 33 0, some ((.ofNat 14), []), 0, 0)
noncomputable def c172_0_p4 : PE := (2, [1, 0, 2, 3], (34, (zt5 [qtN 10 1 4, qtN 11 0 60, qtN 12 0 8, qtN 13 0 6, qtN 14 4 8, qtN 15 0 60, qtN 16 0 60, qtN 17 0 10, qtA 18, qtN 19 0 1, qtN 20 0 1, qtN 21 0 1, qtN 22 0 1, qtN 33 0 5]), [((.ofNat 1), [(19, (.negSucc 0)), (20, (.negSucc 0)), (21, (.negSucc 0)), (22, (.negSucc 0))])], [qvK (.ofNat 4), qvR 0, qvK (.ofNat 807), qvS 33], zh289, [(1, [1], []), (2, [1], [])]), symsL 33 0, some ((.ofNat 13), []), 0, 0)
noncomputable def c172_0_p5 : PE := (2, [1, 0, 2, 3], (34, (zt5 [qtN 10 1 4, qtN 11 0 60, qtN 12 0 8, qtN 13 0 6, qtN 14 5 8, qtN 15 0 60, qtN 16 0 60, qtN 17 0 10, qtA 18, qtN 19 0 1, qtN 20 0 1, qtN 21 0 1, qtN 22 0 1, qtN 33 0 5]), [((.ofNat 1), [(19, (.negSucc 0)), (20, (.negSucc 0)), (21, (.negSucc 0)), (22, (.negSucc 0))])], [qvK (.ofNat 5), qvR 0, qvK (.ofNat 812), qvS 33], zh289, [(1, [1], []), (2, [1], [])]), symsL 33 0, some ((.ofNat 12), []), 0, 0)
noncomputable def c172_0_p6 : PE := (2, [1, 0, 2, 3], (34, (zt5 [qtN 10 1 4, qtN 11 0 60, qtN 12 0 8, qtN 13 0 6, qtN 14 6 8, qtN 15 0 60, qtN 16 0 60, qtN 17 0 10, qtA 18, qtN 19 0 1, qtN 20 0 1, qtN 21 0 1, qtN 22 0 1, qtN 33 0 5]), [((.ofNat 1), [(19, (.negSucc 0)), (20, (.negSucc 0)), (21, (.negSucc 0)), (22, (.negSucc 0))])], [qvK (.ofNat 6), qvR 0, qvK (.ofNat 817), qvS 33], zh289, [(1, [1], []), (2, [1], [])]), symsL 33 0, some ((.ofNat 11), []), 0, 0)
noncomputable def c172_0_p7 : PE := (2, [1, 0, 2, 3], (34, (zt5 [qtN 10 1 4, qtN 11 0 60, qtN 12 0 8, qtN 13 0 6, qtN 14 7 8, qtN 15 0 60, qtN 16 0 60, qtN 17 0 10, qtA 18, qtN 19 0 1, qtN 20 0 1, qtN 21 0 1, qtN 22 0 1, qtN 33 0 5]), [((.ofNat 1), [(19, (.negSucc 0)), (20, (.negSucc 0)), (21, (.negSucc 0)), (22, (.negSucc 0))])], [qvK (.ofNat 7), qvR 0, qvK (.ofNat 822), qvS 33], zh289, [(1, [1], []), (2, [1], [])]), symsL 33 0, some ((.ofNat 10), []), 0, 0)
noncomputable def c172_0_p8 : PE := (2, [1, 0, 2, 3], (34, (zt5 [qtN 10 1 4, qtN 11 0 60, qtN 12 0 8, qtN 13 0 6, qtN 14 8 8, qtN 15 0 60, qtN 16 0 60, qtN 17 0 10, qtA 18, qtN 19 0 1, qtN 20 0 1, qtN 21 0 1, qtN 22 0 1, qtN 33 0 5]), [((.ofNat 1), [(19, (.negSucc 0)), (20, (.negSucc 0)), (21, (.negSucc 0)), (22, (.negSucc 0))])], [qvK (.ofNat 8), qvR 0, qvK (.ofNat 827), qvS 33], zh289, [(1, [1], []), (2, [1], [])]), symsL 33 0, some ((.ofNat 9), []), 0, 0)
noncomputable def c172_0_pts : List PE := [c172_0_p0, c172_0_p1, c172_0_p2, c172_0_p3, c172_0_p4, c172_0_p5, c172_0_p6, c172_0_p7, c172_0_p8]
set_option maxRecDepth 100000 in
theorem c172_0_k : enCtF c172_0 c172_0_e (pkP (c172_0_pts ++ []) [0]) (none) ((hOr (atPc 47 (fHarm 1)) (hOr (atPc 65 (fHarm 1)) (hOr (atPc 96 (fHarm 1)) (hSplit 178 3 )))), noM, 4, 383123885216472214589586836015739847062651258997309440, 33) 3000 = true := by decide +kernel
set_option maxRecDepth 100000 in
theorem c172_0_k0 : ptCtF c172_0 c172_0_e (pkP (c172_0_pts ++ []) [1]) ((hOr (atPc 47 (fHarm 1)) (hOr (atPc 65 (fHarm 1)) (hOr (atPc 96 (fHarm 1)) (hSplit 178 3 )))), noM, 4, 383123885216472214589586836015739847062651258997309440, 33) 3000 c172_0_p0 = true := by decide +kernel
set_option maxRecDepth 100000 in
theorem c172_0_k1 : ptCtF c172_0 c172_0_e (pkP (c172_0_pts ++ []) [2]) ((hOr (atPc 47 (fHarm 1)) (hOr (atPc 65 (fHarm 1)) (hOr (atPc 96 (fHarm 1)) (hSplit 178 3 )))), noM, 4, 383123885216472214589586836015739847062651258997309440, 33) 3000 c172_0_p1 = true := by decide +kernel
set_option maxRecDepth 100000 in
theorem c172_0_k2 : ptCtF c172_0 c172_0_e (pkP (c172_0_pts ++ []) [3]) ((hOr (atPc 47 (fHarm 1)) (hOr (atPc 65 (fHarm 1)) (hOr (atPc 96 (fHarm 1)) (hSplit 178 3 )))), noM, 4, 383123885216472214589586836015739847062651258997309440, 33) 3000 c172_0_p2 = true := by decide +kernel
set_option maxRecDepth 100000 in
theorem c172_0_k3 : ptCtF c172_0 c172_0_e (pkP (c172_0_pts ++ []) [4]) ((hOr (atPc 47 (fHarm 1)) (hOr (atPc 65 (fHarm 1)) (hOr (atPc 96 (fHarm 1)) (hSplit 178 3 )))), noM, 4, 383123885216472214589586836015739847062651258997309440, 33) 3000 c172_0_p3 = true := by decide +kernel
set_option maxRecDepth 100000 in
theorem c172_0_k4 : ptCtF c172_0 c172_0_e (pkP (c172_0_pts ++ []) [5]) ((hOr (atPc 47 (fHarm 1)) (hOr (atPc 65 (fHarm 1)) (hOr (atPc 96 (fHarm 1)) (hSplit 178 3 )))), noM, 4, 383123885216472214589586836015739847062651258997309440, 33) 3000 c172_0_p4 = true := by decide +kernel
set_option maxRecDepth 100000 in
theorem c172_0_k5 : ptCtF c172_0 c172_0_e (pkP (c172_0_pts ++ []) [6]) ((hOr (atPc 47 (fHarm 1)) (hOr (atPc 65 (fHarm 1)) (hOr (atPc 96 (fHarm 1)) (hSplit 178 3 )))), noM, 4, 383123885216472214589586836015739847062651258997309440, 33) 3000 c172_0_p5 = true := by decide +kernel
set_option maxRecDepth 100000 in
theorem c172_0_k6 : ptCtF c172_0 c172_0_e (pkP (c172_0_pts ++ []) [7]) ((hOr (atPc 47 (fHarm 1)) (hOr (atPc 65 (fHarm 1)) (hOr (atPc 96 (fHarm 1)) (hSplit 178 3 )))), noM, 4, 383123885216472214589586836015739847062651258997309440, 33) 3000 c172_0_p6 = true := by decide +kernel
set_option maxRecDepth 100000 in
theorem c172_0_k7 : ptCtF c172_0 c172_0_e (pkP (c172_0_pts ++ []) [8]) ((hOr (atPc 47 (fHarm 1)) (hOr (atPc 65 (fHarm 1)) (hOr (atPc 96 (fHarm 1)) (hSplit 178 3 )))), noM, 4, 383123885216472214589586836015739847062651258997309440, 33) 3000 c172_0_p7 = true := by decide +kernel
set_option maxRecDepth 100000 in
theorem c172_0_k8 : ptCtF c172_0 c172_0_e (pkP (c172_0_pts ++ []) []) ((hOr (atPc 47 (fHarm 1)) (hOr (atPc 65 (fHarm 1)) (hOr (atPc 96 (fHarm 1)) (hSplit 178 3 )))), noM, 4, 383123885216472214589586836015739847062651258997309440, 33) 3000 c172_0_p8 = true := by decide +kernel
set_option maxRecDepth 100000 in
theorem c172_0_v : ValidC PPk c172_0 := ct_ok fpk ⟨(hOr_ok (atPc_ok (fHarm_ok 1)) (hOr_ok (atPc_ok (fHarm_ok 1)) (hOr_ok (atPc_ok (fHarm_ok 1)) (hSplit_ok 178 3 )))), noM_ok⟩ (d := 2) (ext := []) (pts := c172_0_pts) (env := c172_0_e) rfl (List.forall_mem_cons.mpr ⟨⟨c173_0_v, Nat.le_of_ble_eq_true rfl⟩, List.forall_mem_cons.mpr ⟨⟨c174_0_v, Nat.le_of_ble_eq_true rfl⟩, fun _ h => (by cases h)⟩⟩) ext_nil (fun q h => (by cases h)) (enF c172_0_k) (List.forall_mem_cons.mpr ⟨⟨_, ptF c172_0_k0⟩, List.forall_mem_cons.mpr ⟨⟨_, ptF c172_0_k1⟩, List.forall_mem_cons.mpr ⟨⟨_, ptF c172_0_k2⟩, List.forall_mem_cons.mpr ⟨⟨_, ptF c172_0_k3⟩, List.forall_mem_cons.mpr ⟨⟨_, ptF c172_0_k4⟩, List.forall_mem_cons.mpr ⟨⟨_, ptF c172_0_k5⟩, List.forall_mem_cons.mpr ⟨⟨_, ptF c172_0_k6⟩, List.forall_mem_cons.mpr ⟨⟨_, ptF c172_0_k7⟩, List.forall_mem_cons.mpr ⟨⟨_, ptF c172_0_k8⟩, fun _ h => (by cases h)⟩⟩⟩⟩⟩⟩⟩⟩⟩)

noncomputable def c175_0 : Ct := (175, 1, (33, (zt2 []), [((.ofNat 1), [(19, (.negSucc 0)), (20, (.negSucc 0)), (21, (.negSucc 0)), (22, (.negSucc 0))])], [qvR 0, qvK (.ofNat 0), qvK (.ofNat 12)], zh48, [(1, [1], []), (2, [1], [])]),
  [((33, [], [], [qvS 19], zh48, [(1, [1], []), (2, [1], [])]), 0, 0)])
noncomputable def c175_0_e : List Ct := []
noncomputable def c175_0_pts : List PE := []
set_option maxRecDepth 100000 in
theorem c175_0_k : enCtF c175_0 c175_0_e (pkP (c175_0_pts ++ []) []) (none) noH 3000 = true := by decide +kernel
set_option maxRecDepth 100000 in
theorem c175_0_v : ValidC PPk c175_0 := ct_ok fpk noH_ok (d := 0) (ext := []) (pts := c175_0_pts) (env := c175_0_e) rfl (fun _ h => (by cases h)) ext_nil (fun q h => (by cases h)) (enF c175_0_k) (fun _ h => (by cases h))

noncomputable def zh290 : AH := [zc46, qkC 100 10, qkC 100 11, qkC 103 12, qkC 100 13, qkC 100 14, qkC 100 15, qjC 1 70, qjC 1 8, qkC 100 16, qkC 100 17, qkC 100 18, qkC 100 19, qkC 100 20, qjC 1 4]
noncomputable def c179_0 : Ct := (179, 1, (21, (zt5 []), [], [qvR 0], zh290, [(1, [1], []), (2, [1], [])]),
  [((22, [(21, (.negSucc 9223372036854775807), (.ofNat 9223372036854775807))], [], [.inl (true, (sL 21))], zh290, [(1, [1], []), (2, [1], [])]), 0, 0)])
noncomputable def c179_0_e : List Ct := []
noncomputable def c179_0_pts : List PE := []
set_option maxRecDepth 100000 in
theorem c179_0_k : enCtF c179_0 c179_0_e (pkP (c179_0_pts ++ []) []) (some (2, 0, 9)) noH 3000 = true := by decide +kernel
set_option maxRecDepth 100000 in
theorem c179_0_v : ValidC PPk c179_0 := ct_ok fpk noH_ok (d := 0) (ext := []) (pts := c179_0_pts) (env := c179_0_e) rfl (fun _ h => (by cases h)) ext_nil (fun q h => (by cases h; exact Nat.le_of_ble_eq_true rfl)) (enF c179_0_k) (fun _ h => (by cases h))

noncomputable def c177_0 : Ct := (177, 1, (34, (zt2 [qtN 33 0 5]), [((.ofNat 1), [(19, (.negSucc 0)), (20, (.negSucc 0)), (21, (.negSucc 0)), (22, (.negSucc 0))])], [qvR 0, qvS 33], zh48, [(1, [1], []), (2, [1], [])]),
  [((35, [qtA 34], [], [qvS 34], zh48, [(1, [1], []), (2, [1], [])]), 0, 0)])
noncomputable def c177_0_e : List Ct := []
noncomputable def c177_0_pts : List PE := []
set_option maxRecDepth 100000 in
theorem c177_0_k : enCtF c177_0 c177_0_e (pkP (c177_0_pts ++ []) []) (none) noH 3000 = true := by decide +kernel
set_option maxRecDepth 100000 in
theorem c177_0_v : ValidC PPk c177_0 := ct_ok fpk noH_ok (d := 0) (ext := []) (pts := c177_0_pts) (env := c177_0_e) rfl (fun _ h => (by cases h)) ext_nil (fun q h => (by cases h)) (enF c177_0_k) (fun _ h => (by cases h))

noncomputable def zt102 (r : TbL) : TbL := qtN 0 0 69 :: qtN 1 0 69 :: qtN 2 0 7 :: qtA 3 :: qtA 4 :: qtA 5 :: qtA 6 :: qtA 7 :: qtA 8 :: qtA 9 :: r
noncomputable def c178_0 : Ct := (178, 1, (22, (zt102 [(21, (.negSucc 9223372036854775807), (.ofNat 9223372036854775807))]), [], [qvR 0, .inl (true, (sL 21))], zh290, [(1, [1], []), (2, [1], [])]),
  [((22, [], [], [], [qoC 12 [qvR 1, qvR 2, qvR 3, qvS 0, qvR 4, qvR 5, qvS 1, qvR 6, qvR 7, .inl (false, ((.ofNat 1), [(2, (.ofNat 1))])), qvR 8, qvS 3, qvR 9, qvR 10, qvR 11, qvR 12, qvS 4, qvS 5, qvS 6, qvR 13, qvS 7, qvS 8, qvS 9, qvR 14], qkC 100 10, qkC 100 11, qkC 103 12, qkC 100 13, qkC 100 14, qkC 100 15, qjC 1 70, qjC 1 8, qkC 100 16, qkC 100 17, qkC 100 18, qkC 100 19, qkC 100 20, qjC 1 4], [(1, [1], []), (2, [1], [])]), 0, 0)])
noncomputable def c178_0_e : List Ct := []
noncomputable def c178_0_p0 : PE := (5, [0, 1, 3], (23, (zt102 [(21, (.negSucc 9223372036854775807), (.ofNat 9223372036854775807)), qtN 22 0 7]), [], [qvR 0, .inl (true, (sL 21)), qvS 22], zh290, [(1, [1], []), (2, [1], [])]), symsL 22 0, some ((.ofNat 8), [(22, (.ofNat 1))]), 0, 0)
noncomputable def c178_0_pts : List PE := [c178_0_p0]
set_option maxRecDepth 100000 in
theorem c178_0_k : enCtF c178_0 c178_0_e (pkP (c178_0_pts ++ []) [0]) (none) (noF, noM, 32, 0, 22) 3000 = true := by decide +kernel
set_option maxRecDepth 100000 in
theorem c178_0_k0 : ptCtF c178_0 c178_0_e (pkP (c178_0_pts ++ []) [0]) (noF, noM, 32, 0, 22) 3000 c178_0_p0 = true := by decide +kernel
set_option maxRecDepth 100000 in
theorem c178_0_v : ValidC PPk c178_0 := ct_ok fpk ⟨noF_ok, noM_ok⟩ (d := 0) (ext := []) (pts := c178_0_pts) (env := c178_0_e) rfl (fun _ h => (by cases h)) ext_nil (fun q h => (by cases h)) (enF c178_0_k) (List.forall_mem_cons.mpr ⟨⟨_, ptF c178_0_k0⟩, fun _ h => (by cases h)⟩)

noncomputable def zh291 : AH := [qoC 12 [qvR 1, qvR 2, qvR 3, qvS 0, qvR 4, qvR 5, qvS 1, qvR 6, qvR 7, qvS 33, qvR 8, qvS 3, qvR 9, qvR 10, qvR 11, qvR 12, qvS 4, qvS 5, qvS 6, qvR 13, qvS 7, qvS 8, qvS 9, qvR 14], zc47, qkC 100 23, qkC 103 24, qkC 100 25, qkC 100 26, qkC 100 27, qjC 1 70, qjC 1 8, qkC 100 28, qkC 100 29, qkC 100 30, qkC 100 31, qkC 100 32, qjC 1 4]
noncomputable def zh292 : AH := [qoC 12 [qvR 1, qvR 2, qvR 3, qvS 0, qvR 4, qvR 5, qvS 1, qvR 6, qvR 7, qvK (.ofNat 0), qvR 8, qvS 3, qvR 9, qvR 10, qvR 11, qvR 12, qvS 4, qvS 5, qvS 6, qvR 13, qvS 7, qvS 8, qvS 9, qvR 14], zc47, qkC 100 23, qkC 103 24, qkC 100 25, qkC 100 26, qkC 100 27, qjC 1 70, qjC 1 8, qkC 100 28, qkC 100 29, qkC 100 30, qkC 100 31, qkC 100 32, qjC 1 4]
noncomputable def zt103 (r : TbL) : TbL := qtN 0 0 69 :: qtN 1 0 69 :: qtN 2 0 8 :: qtA 3 :: qtA 4 :: qtA 5 :: qtA 6 :: qtA 7 :: qtA 8 :: qtA 9 :: qtN 10 1 4 :: qtN 11 0 60 :: qtN 12 0 8 :: qtN 13 1 6 :: qtN 14 0 8 :: qtN 15 0 60 :: qtN 16 0 60 :: qtN 17 0 10 :: qtA 18 :: qtN 19 0 1 :: qtN 20 0 1 :: qtN 21 0 1 :: qtN 22 0 1 :: r
noncomputable def zh293 : AH := [qoC 12 [qvR 1, qvR 2, qvR 3, qvS 0, qvR 4, qvR 5, qvS 1, qvR 6, qvR 7, qvS 36, qvR 8, qvS 3, qvR 9, qvR 10, qvR 11, qvR 12, qvS 4, qvS 5, qvS 6, qvR 13, qvS 7, qvS 8, qvS 9, qvR 14], zc47, qkC 100 23, qkC 103 24, qkC 100 25, qkC 100 26, qkC 100 27, qjC 1 70, qjC 1 8, qkC 100 28, qkC 100 29, qkC 100 30, qkC 100 31, qkC 100 32, qjC 1 4]
noncomputable def c176_0 : Ct := (176, 2, (33, (zt2 []), [((.ofNat 1), [(19, (.negSucc 0)), (20, (.negSucc 0)), (21, (.negSucc 0)), (22, (.negSucc 0))])], [qvR 0], zh48, [(1, [1], []), (2, [1], [])]),
  [((34, [qtN 33 0 6], [], [], zh291, [(1, [1], []), (2, [1], [])]), 0, 0)])
noncomputable def c176_0_e : List Ct := [c177_0, c178_0, c179_0]
noncomputable def c176_0_p0 : PE := (2, [0, 1, 2], (35, (zt2 [qtN 33 1 2, qtN 34 0 6]), [((.ofNat 1), [(19, (.negSucc 0)), (20, (.negSucc 0)), (21, (.negSucc 0)), (22, (.negSucc 0))])], [qvR 0, qvS 33, qvS 34], zh292, [(1, [1], []), (2, [1], [])]), symsL 33 0, some ((.ofNat 245), [(33, (.negSucc 27))]), 0, 0)
noncomputable def c176_0_p1 : PE := (2, [0, 1, 2, 3], (37, (zt103 [qtN 33 1 2, qtN 34 1 6, qtA 35, qtN 36 0 6]), [((.ofNat 1), [(19, (.negSucc 0)), (20, (.negSucc 0)), (21, (.negSucc 0)), (22, (.negSucc 0))]), ((.ofNat 0), [(34, (.negSucc 0)), (36, (.ofNat 1))])], [qvR 0, qvS 33, qvS 34, qvS 35], zh293, [(1, [1], []), (2, [1], [])]), symsL 33 0, some ((.ofNat 245), [(33, (.negSucc 27))]), 0, 0)
noncomputable def c176_0_p2 : PE := (2, [0, 1], (33, (zt2 []), [((.ofNat 1), [(19, (.negSucc 0)), (20, (.negSucc 0)), (21, (.negSucc 0)), (22, (.negSucc 0))])], [qvR 0, qvK (.ofNat 0)], zh48, [(1, [1], []), (2, [1], [])]), symsL 33 0, some ((.ofNat 245), []), 0, 0)
noncomputable def c176_0_p3 : PE := (14, [0, 1, 2], (35, (zt2 [qtN 33 0 1, qtN 34 0 6]), [((.ofNat 1), [(19, (.negSucc 0)), (20, (.negSucc 0)), (21, (.negSucc 0)), (22, (.negSucc 0))])], [qvR 0, qvS 33, qvS 34], zh292, [(1, [1], []), (2, [1], [])]), symsL 33 0, some ((.ofNat 237), [(33, (.negSucc 27)), (34, (.negSucc 0))]), 0, 0)
noncomputable def c176_0_p4 : PE := (14, [0, 1, 2, 3], (37, (zt103 [qtN 33 0 1, qtN 34 0 6, qtA 35, qtN 36 0 6]), [((.ofNat 1), [(19, (.negSucc 0)), (20, (.negSucc 0)), (21, (.negSucc 0)), (22, (.negSucc 0))]), ((.ofNat 0), [(34, (.negSucc 0)), (36, (.ofNat 1))])], [qvR 0, qvS 33, qvS 34, qvS 35], zh293, [(1, [1], []), (2, [1], [])]), symsL 33 0, some ((.ofNat 237), [(33, (.negSucc 27)), (34, (.negSucc 0))]), 0, 0)
noncomputable def c176_0_pts : List PE := [c176_0_p0, c176_0_p1, c176_0_p2, c176_0_p3, c176_0_p4]
set_option maxRecDepth 100000 in
theorem c176_0_k : enCtF c176_0 c176_0_e (pkP (c176_0_pts ++ []) [2]) (none) (noF, noM, 16388, 0, 33) 3000 = true := by decide +kernel
set_option maxRecDepth 100000 in
theorem c176_0_k0 : ptCtF c176_0 c176_0_e (pkP (c176_0_pts ++ []) [3]) (noF, noM, 16388, 0, 33) 3000 c176_0_p0 = true := by decide +kernel
set_option maxRecDepth 100000 in
theorem c176_0_k1 : ptCtF c176_0 c176_0_e (pkP (c176_0_pts ++ []) [4]) (noF, noM, 16388, 0, 33) 3000 c176_0_p1 = true := by decide +kernel
set_option maxRecDepth 100000 in
theorem c176_0_k2 : ptCtF c176_0 c176_0_e (pkP (c176_0_pts ++ []) [3]) (noF, noM, 16388, 0, 33) 3000 c176_0_p2 = true := by decide +kernel
set_option maxRecDepth 100000 in
theorem c176_0_k3 : ptCtF c176_0 c176_0_e (pkP (c176_0_pts ++ []) [0, 4, 3]) (noF, noM, 16388, 0, 33) 3000 c176_0_p3 = true := by decide +kernel
set_option maxRecDepth 100000 in
theorem c176_0_k4 : ptCtF c176_0 c176_0_e (pkP (c176_0_pts ++ []) [1, 4]) (noF, noM, 16388, 0, 33) 3000 c176_0_p4 = true := by decide +kernel
set_option maxRecDepth 100000 in
theorem c176_0_v : ValidC PPk c176_0 := ct_ok fpk ⟨noF_ok, noM_ok⟩ (d := 1) (ext := []) (pts := c176_0_pts) (env := c176_0_e) rfl (List.forall_mem_cons.mpr ⟨⟨c177_0_v, Nat.le_of_ble_eq_true rfl⟩, List.forall_mem_cons.mpr ⟨⟨c178_0_v, Nat.le_of_ble_eq_true rfl⟩, List.forall_mem_cons.mpr ⟨⟨c179_0_v, Nat.le_of_ble_eq_true rfl⟩, fun _ h => (by cases h)⟩⟩⟩) ext_nil (fun q h => (by cases h)) (enF c176_0_k) (List.forall_mem_cons.mpr ⟨⟨_, ptF c176_0_k0⟩, List.forall_mem_cons.mpr ⟨⟨_, ptF c176_0_k1⟩, List.forall_mem_cons.mpr ⟨⟨_, ptF c176_0_k2⟩, List.forall_mem_cons.mpr ⟨⟨_, ptF c176_0_k3⟩, List.forall_mem_cons.mpr ⟨⟨_, ptF c176_0_k4⟩, fun _ h => (by cases h)⟩⟩⟩⟩⟩)

noncomputable def c175_1 : Ct := (175, 1, (33, (zt2 []), [((.ofNat 1), [(19, (.negSucc 0)), (20, (.negSucc 0)), (21, (.negSucc 0)), (22, (.negSucc 0))])], [qvR 0, qvK (.ofNat 1), qvK (.ofNat 12)], zh48, [(1, [1], []), (2, [1], [])]),
  [((33, [], [], [qvS 20], zh48, [(1, [1], []), (2, [1], [])]), 0, 0)])
noncomputable def c175_1_e : List Ct := []
noncomputable def c175_1_pts : List PE := []
set_option maxRecDepth 100000 in
theorem c175_1_k : enCtF c175_1 c175_1_e (pkP (c175_1_pts ++ []) []) (none) noH 3000 = true := by decide +kernel
set_option maxRecDepth 100000 in
theorem c175_1_v : ValidC PPk c175_1 := ct_ok fpk noH_ok (d := 0) (ext := []) (pts := c175_1_pts) (env := c175_1_e) rfl (fun _ h => (by cases h)) ext_nil (fun q h => (by cases h)) (enF c175_1_k) (fun _ h => (by cases h))

noncomputable def c175_2 : Ct := (175, 1, (33, (zt2 []), [((.ofNat 1), [(19, (.negSucc 0)), (20, (.negSucc 0)), (21, (.negSucc 0)), (22, (.negSucc 0))])], [qvR 0, qvK (.ofNat 2), qvK (.ofNat 12)], zh48, [(1, [1], []), (2, [1], [])]),
  [((33, [], [], [qvS 21], zh48, [(1, [1], []), (2, [1], [])]), 0, 0)])
noncomputable def c175_2_e : List Ct := []
noncomputable def c175_2_pts : List PE := []
set_option maxRecDepth 100000 in
theorem c175_2_k : enCtF c175_2 c175_2_e (pkP (c175_2_pts ++ []) []) (none) noH 3000 = true := by decide +kernel
set_option maxRecDepth 100000 in
theorem c175_2_v : ValidC PPk c175_2 := ct_ok fpk noH_ok (d := 0) (ext := []) (pts := c175_2_pts) (env := c175_2_e) rfl (fun _ h => (by cases h)) ext_nil (fun q h => (by cases h)) (enF c175_2_k) (fun _ h => (by cases h))

noncomputable def c175_3 : Ct := (175, 1, (33, (zt2 []), [((.ofNat 1), [(19, (.negSucc 0)), (20, (.negSucc 0)), (21, (.negSucc 0)), (22, (.negSucc 0))])], [qvR 0, qvK (.ofNat 3), qvK (.ofNat 12)], zh48, [(1, [1], []), (2, [1], [])]),
  [((33, [], [], [qvS 22], zh48, [(1, [1], []), (2, [1], [])]), 0, 0)])
noncomputable def c175_3_e : List Ct := []
noncomputable def c175_3_pts : List PE := []
set_option maxRecDepth 100000 in
theorem c175_3_k : enCtF c175_3 c175_3_e (pkP (c175_3_pts ++ []) []) (none) noH 3000 = true := by decide +kernel
set_option maxRecDepth 100000 in
theorem c175_3_v : ValidC PPk c175_3 := ct_ok fpk noH_ok (d := 0) (ext := []) (pts := c175_3_pts) (env := c175_3_e) rfl (fun _ h => (by cases h)) ext_nil (fun q h => (by cases h)) (enF c175_3_k) (fun _ h => (by cases h))

noncomputable def c175_4 : Ct := (175, 1, (33, (zt2 []), [((.ofNat 1), [(19, (.negSucc 0)), (20, (.negSucc 0)), (21, (.negSucc 0)), (22, (.negSucc 0))])], [qvR 0, qvK (.ofNat 0), qvK (.ofNat 16)], zh48, [(1, [1], []), (2, [1], [])]),
  [((34, [qtA 33], [], [qvS 33], zh48, [(1, [1], []), (2, [1], [])]), 0, 0)])
noncomputable def c175_4_e : List Ct := []
noncomputable def c175_4_pts : List PE := []
set_option maxRecDepth 100000 in
theorem c175_4_k : enCtF c175_4 c175_4_e (pkP (c175_4_pts ++ []) []) (none) noH 3000 = true := by decide +kernel
set_option maxRecDepth 100000 in
theorem c175_4_v : ValidC PPk c175_4 := ct_ok fpk noH_ok (d := 0) (ext := []) (pts := c175_4_pts) (env := c175_4_e) rfl (fun _ h => (by cases h)) ext_nil (fun q h => (by cases h)) (enF c175_4_k) (fun _ h => (by cases h))

noncomputable def c182_0 : Ct := (182, 2, (34, (zt2 [qtN 33 0 59]), [((.ofNat 1), [(19, (.negSucc 0)), (20, (.negSucc 0)), (21, (.negSucc 0)), (22, (.negSucc 0))])], [qvR 0, qvK (.ofNat 0), qvS 33], zh48, [(1, [1], []), (2, [1], [])]),
  [((35, [qtA 34], [], [qvS 34], zh48, [(1, [1], []), (2, [1], [])]), 0, 0)])
noncomputable def c182_0_e : List Ct := [c145_0]
noncomputable def c182_0_pts : List PE := []
set_option maxRecDepth 100000 in
theorem c182_0_k : enCtF c182_0 c182_0_e (pkP (c182_0_pts ++ []) []) (none) ((hOr (atPc 3 (fRec 2)) (atPc 225 (fCut 8 (.negSucc 0)))), noM, 0, 53919893334301279589334030174039261347274288845081144962207220498440, 34) 3000 = true := by decide +kernel
set_option maxRecDepth 100000 in
theorem c182_0_v : ValidC PPk c182_0 := ct_ok fpk ⟨(hOr_ok (atPc_ok (fRec_ok 2)) (atPc_ok (fCut_ok 8 (.negSucc 0)))), noM_ok⟩ (d := 1) (ext := []) (pts := c182_0_pts) (env := c182_0_e) rfl (List.forall_mem_cons.mpr ⟨⟨c145_0_v, Nat.le_of_ble_eq_true rfl⟩, fun _ h => (by cases h)⟩) ext_nil (fun q h => (by cases h)) (enF c182_0_k) (fun _ h => (by cases h))

noncomputable def zt104 (r : TbL) : TbL := qtN 0 0 69 :: qtN 1 0 69 :: qtN 2 0 8 :: qtA 3 :: qtA 4 :: qtA 5 :: qtA 6 :: qtA 7 :: qtA 8 :: qtA 9 :: qtN 10 1 4 :: qtN 11 1 60 :: qtN 12 0 8 :: qtN 13 0 6 :: qtN 14 0 8 :: qtN 15 0 60 :: qtN 16 0 60 :: qtN 17 0 10 :: qtA 18 :: qtN 19 0 1 :: qtN 20 0 1 :: qtN 21 0 1 :: qtN 22 0 1 :: r
noncomputable def c181_0 : Ct := (181, 3, (35, (zt2 [qtN 33 0 5, (34, (.negSucc 0), (.ofNat 40))]), [((.ofNat 1), [(19, (.negSucc 0)), (20, (.negSucc 0)), (21, (.negSucc 0)), (22, (.negSucc 0))])], [qvR 0, qvK (.ofNat 0), qvS 33, qvS 34], zh48, [(1, [1], []), (2, [1], [])]),
  [((36, [qtN 35 0 1], [], [qvS 35], zh48, [(1, [1], []), (2, [1], [])]), 0, 0)])
noncomputable def c181_0_e : List Ct := [c182_0]
noncomputable def c181_0_p0 : PE := (37, [0, 1, 2, 3, 4, 5, 6, 7], (37, (zt2 [qtN 33 0 5, (34, (.negSucc 0), (.ofNat 40)), qtN 35 0 60, qtN 36 0 60]), [((.ofNat 1), [(19, (.negSucc 0)), (20, (.negSucc 0)), (21, (.negSucc 0)), (22, (.negSucc 0))])], [qvR 0, qvK (.ofNat 0), qvS 33, qvS 34, qvS 35, qvS 36, qvS 35, qvS 34], zh48, [(1, [1], []), (2, [1], [])]), symsL 35 0, some ((.ofNat 34359738368), []), 0, 0)
noncomputable def c181_0_p1 : PE := (37, [0, 1, 2, 3, 4, 5, 6, 7, 8], (39, (zt104 [qtN 33 0 5, (34, (.negSucc 0), (.negSucc 0)), qtN 35 0 59, qtN 36 1 60, qtA 37, (38, (.negSucc 2147483647), (.negSucc 1))]), [((.ofNat 1), [(19, (.negSucc 0)), (20, (.negSucc 0)), (21, (.negSucc 0)), (22, (.negSucc 0))])], [qvR 0, qvK (.ofNat 0), qvS 33, qvS 34, qvS 35, qvS 36, qvS 37, qvS 38, qvS 37], zh48, [(1, [1], []), (2, [1], [])]), symsL 35 0, some ((.ofNat 8589934592), [(38, (.ofNat 1))]), 0, 0)
noncomputable def c181_0_p2 : PE := (37, [0, 1, 2, 3, 4, 5, 6, 7, 8], (39, (zt104 [qtN 33 0 5, (34, (.negSucc 0), (.ofNat 40)), qtN 35 0 59, qtN 36 1 60, qtA 37, qtN 38 0 2147483647]), [((.ofNat 1), [(19, (.negSucc 0)), (20, (.negSucc 0)), (21, (.negSucc 0)), (22, (.negSucc 0))])], [qvR 0, qvK (.ofNat 0), qvS 33, qvS 34, qvS 35, qvS 36, qvS 37, qvS 38, qvS 37], zh48, [(1, [1], []), (2, [1], [])]), symsL 35 0, some (sL 38), 0, 0)
noncomputable def c181_0_pts : List PE := [c181_0_p0, c181_0_p1, c181_0_p2]
set_option maxRecDepth 100000 in
theorem c181_0_k : enCtF c181_0 c181_0_e (pkP (c181_0_pts ++ []) [0]) (none) ((hOr (atPc 37 (fCut 7 (.negSucc 0))) (atPc 69 (fCut 7 (.negSucc 2147483647)))), noM, 137438953472, 590295810496144605184, 35) 3000 = true := by decide +kernel
set_option maxRecDepth 100000 in
theorem c181_0_k0 : ptCtF c181_0 c181_0_e (pkP (c181_0_pts ++ []) [1, 2]) ((hOr (atPc 37 (fCut 7 (.negSucc 0))) (atPc 69 (fCut 7 (.negSucc 2147483647)))), noM, 137438953472, 590295810496144605184, 35) 3000 c181_0_p0 = true := by decide +kernel
set_option maxRecDepth 100000 in
theorem c181_0_k1 : ptCtF c181_0 c181_0_e (pkP (c181_0_pts ++ []) [2, 1]) ((hOr (atPc 37 (fCut 7 (.negSucc 0))) (atPc 69 (fCut 7 (.negSucc 2147483647)))), noM, 137438953472, 590295810496144605184, 35) 3000 c181_0_p1 = true := by decide +kernel
set_option maxRecDepth 100000 in
theorem c181_0_k2 : ptCtF c181_0 c181_0_e (pkP (c181_0_pts ++ []) [2]) ((hOr (atPc 37 (fCut 7 (.negSucc 0))) (atPc 69 (fCut 7 (.negSucc 2147483647)))), noM, 137438953472, 590295810496144605184, 35) 3000 c181_0_p2 = true := by decide +kernel
set_option maxRecDepth 100000 in
theorem c181_0_v : ValidC PPk c181_0 := ct_ok fpk ⟨(hOr_ok (atPc_ok (fCut_ok 7 (.negSucc 0))) (atPc_ok (fCut_ok 7 (.negSucc 2147483647)))), noM_ok⟩ (d := 2) (ext := []) (pts := c181_0_pts) (env := c181_0_e) rfl (List.forall_mem_cons.mpr ⟨⟨c182_0_v, Nat.le_of_ble_eq_true rfl⟩, fun _ h => (by cases h)⟩) ext_nil (fun q h => (by cases h)) (enF c181_0_k) (List.forall_mem_cons.mpr ⟨⟨_, ptF c181_0_k0⟩, List.forall_mem_cons.mpr ⟨⟨_, ptF c181_0_k1⟩, List.forall_mem_cons.mpr ⟨⟨_, ptF c181_0_k2⟩, fun _ h => (by cases h)⟩⟩⟩)

noncomputable def c175_5 : Ct := (175, 1, (33, (zt2 []), [((.ofNat 1), [(19, (.negSucc 0)), (20, (.negSucc 0)), (21, (.negSucc 0)), (22, (.negSucc 0))])], [qvR 0, qvK (.ofNat 1), qvK (.ofNat 16)], zh48, [(1, [1], []), (2, [1], [])]),
  [((34, [qtA 33], [], [qvS 33], zh48, [(1, [1], []), (2, [1], [])]), 0, 0)])
noncomputable def c175_5_e : List Ct := []
noncomputable def c175_5_pts : List PE := []
set_option maxRecDepth 100000 in
theorem c175_5_k : enCtF c175_5 c175_5_e (pkP (c175_5_pts ++ []) []) (none) noH 3000 = true := by decide +kernel
set_option maxRecDepth 100000 in
theorem c175_5_v : ValidC PPk c175_5 := ct_ok fpk noH_ok (d := 0) (ext := []) (pts := c175_5_pts) (env := c175_5_e) rfl (fun _ h => (by cases h)) ext_nil (fun q h => (by cases h)) (enF c175_5_k) (fun _ h => (by cases h))

noncomputable def c182_1 : Ct := (182, 2, (34, (zt2 [qtN 33 0 59]), [((.ofNat 1), [(19, (.negSucc 0)), (20, (.negSucc 0)), (21, (.negSucc 0)), (22, (.negSucc 0))])], [qvR 0, qvK (.ofNat 1), qvS 33], zh48, [(1, [1], []), (2, [1], [])]),
  [((35, [qtA 34], [], [qvS 34], zh48, [(1, [1], []), (2, [1], [])]), 0, 0)])
noncomputable def c182_1_e : List Ct := [c145_0]
noncomputable def c182_1_pts : List PE := []
set_option maxRecDepth 100000 in
theorem c182_1_k : enCtF c182_1 c182_1_e (pkP (c182_1_pts ++ []) []) (none) ((hOr (atPc 3 (fRec 2)) (atPc 225 (fCut 8 (.negSucc 0)))), noM, 0, 53919893334301279589334030174039261347274288845081144962207220498440, 34) 3000 = true := by decide +kernel
set_option maxRecDepth 100000 in
theorem c182_1_v : ValidC PPk c182_1 := ct_ok fpk ⟨(hOr_ok (atPc_ok (fRec_ok 2)) (atPc_ok (fCut_ok 8 (.negSucc 0)))), noM_ok⟩ (d := 1) (ext := []) (pts := c182_1_pts) (env := c182_1_e) rfl (List.forall_mem_cons.mpr ⟨⟨c145_0_v, Nat.le_of_ble_eq_true rfl⟩, fun _ h => (by cases h)⟩) ext_nil (fun q h => (by cases h)) (enF c182_1_k) (fun _ h => (by cases h))

noncomputable def c181_1 : Ct := (181, 3, (35, (zt2 [qtN 33 0 5, (34, (.negSucc 0), (.ofNat 40))]), [((.ofNat 1), [(19, (.negSucc 0)), (20, (.negSucc 0)), (21, (.negSucc 0)), (22, (.negSucc 0))])], [qvR 0, qvK (.ofNat 1), qvS 33, qvS 34], zh48, [(1, [1], []), (2, [1], [])]),
  [((36, [qtN 35 0 1], [], [qvS 35], zh48, [(1, [1], []), (2, [1], [])]), 0, 0)])
noncomputable def c181_1_e : List Ct := [c182_1]
noncomputable def c181_1_p0 : PE := (37, [0, 1, 2, 3, 4, 5, 6, 7], (37, (zt2 [qtN 33 0 5, (34, (.negSucc 0), (.ofNat 40)), qtN 35 0 60, qtN 36 0 60]), [((.ofNat 1), [(19, (.negSucc 0)), (20, (.negSucc 0)), (21, (.negSucc 0)), (22, (.negSucc 0))])], [qvR 0, qvK (.ofNat 1), qvS 33, qvS 34, qvS 35, qvS 36, qvS 35, qvS 34], zh48, [(1, [1], []), (2, [1], [])]), symsL 35 0, some ((.ofNat 34359738368), []), 0, 0)
noncomputable def c181_1_p1 : PE := (37, [0, 1, 2, 3, 4, 5, 6, 7, 8], (39, (zt104 [qtN 33 0 5, (34, (.negSucc 0), (.negSucc 0)), qtN 35 0 59, qtN 36 1 60, qtA 37, (38, (.negSucc 2147483647), (.negSucc 1))]), [((.ofNat 1), [(19, (.negSucc 0)), (20, (.negSucc 0)), (21, (.negSucc 0)), (22, (.negSucc 0))])], [qvR 0, qvK (.ofNat 1), qvS 33, qvS 34, qvS 35, qvS 36, qvS 37, qvS 38, qvS 37], zh48, [(1, [1], []), (2, [1], [])]), symsL 35 0, some ((.ofNat 8589934592), [(38, (.ofNat 1))]), 0, 0)
noncomputable def c181_1_p2 : PE := (37, [0, 1, 2, 3, 4, 5, 6, 7, 8], (39, (zt104 [qtN 33 0 5, (34, (.negSucc 0), (.ofNat 40)), qtN 35 0 59, qtN 36 1 60, qtA 37, qtN 38 0 2147483647]), [((.ofNat 1), [(19, (.negSucc 0)), (20, (.negSucc 0)), (21, (.negSucc 0)), (22, (.negSucc 0))])], [qvR 0, qvK (.ofNat 1), qvS 33, qvS 34, qvS 35, qvS 36, qvS 37, qvS 38, qvS 37], zh48, [(1, [1], []), (2, [1], [])]), symsL 35 0, some (sL 38), 0, 0)
noncomputable def c181_1_pts : List PE := [c181_1_p0, c181_1_p1, c181_1_p2]
set_option maxRecDepth 100000 in
theorem c181_1_k : enCtF c181_1 c181_1_e (pkP (c181_1_pts ++ []) [0]) (none) ((hOr (atPc 37 (fCut 7 (.negSucc 0))) (atPc 69 (fCut 7 (.negSucc 2147483647)))), noM, 137438953472, 590295810496144605184, 35) 3000 = true := by decide +kernel
set_option maxRecDepth 100000 in
theorem c181_1_k0 : ptCtF c181_1 c181_1_e (pkP (c181_1_pts ++ []) [1, 2]) ((hOr (atPc 37 (fCut 7 (.negSucc 0))) (atPc 69 (fCut 7 (.negSucc 2147483647)))), noM, 137438953472, 590295810496144605184, 35) 3000 c181_1_p0 = true := by decide +kernel
set_option maxRecDepth 100000 in
theorem c181_1_k1 : ptCtF c181_1 c181_1_e (pkP (c181_1_pts ++ []) [2, 1]) ((hOr (atPc 37 (fCut 7 (.negSucc 0))) (atPc 69 (fCut 7 (.negSucc 2147483647)))), noM, 137438953472, 590295810496144605184, 35) 3000 c181_1_p1 = true := by decide +kernel
set_option maxRecDepth 100000 in
theorem c181_1_k2 : ptCtF c181_1 c181_1_e (pkP (c181_1_pts ++ []) [2]) ((hOr (atPc 37 (fCut 7 (.negSucc 0))) (atPc 69 (fCut 7 (.negSucc 2147483647)))), noM, 137438953472, 590295810496144605184, 35) 3000 c181_1_p2 = true := by decide +kernel
set_option maxRecDepth 100000 in
theorem c181_1_v : ValidC PPk c181_1 := ct_ok fpk ⟨(hOr_ok (atPc_ok (fCut_ok 7 (.negSucc 0))) (atPc_ok (fCut_ok 7 (.negSucc 2147483647)))), noM_ok⟩ (d := 2) (ext := []) (pts := c181_1_pts) (env := c181_1_e) rfl (List.forall_mem_cons.mpr ⟨⟨c182_1_v, Nat.le_of_ble_eq_true rfl⟩, fun _ h => (by cases h)⟩) ext_nil (fun q h => (by cases h)) (enF c181_1_k) (List.forall_mem_cons.mpr ⟨⟨_, ptF c181_1_k0⟩, List.forall_mem_cons.mpr ⟨⟨_, ptF c181_1_k1⟩, List.forall_mem_cons.mpr ⟨⟨_, ptF c181_1_k2⟩, fun _ h => (by cases h)⟩⟩⟩)

noncomputable def c175_6 : Ct := (175, 1, (33, (zt2 []), [((.ofNat 1), [(19, (.negSucc 0)), (20, (.negSucc 0)), (21, (.negSucc 0)), (22, (.negSucc 0))])], [qvR 0, qvK (.ofNat 2), qvK (.ofNat 16)], zh48, [(1, [1], []), (2, [1], [])]),
  [((34, [qtA 33], [], [qvS 33], zh48, [(1, [1], []), (2, [1], [])]), 0, 0)])
noncomputable def c175_6_e : List Ct := []
noncomputable def c175_6_pts : List PE := []
set_option maxRecDepth 100000 in
theorem c175_6_k : enCtF c175_6 c175_6_e (pkP (c175_6_pts ++ []) []) (none) noH 3000 = true := by decide +kernel
set_option maxRecDepth 100000 in
theorem c175_6_v : ValidC PPk c175_6 := ct_ok fpk noH_ok (d := 0) (ext := []) (pts := c175_6_pts) (env := c175_6_e) rfl (fun _ h => (by cases h)) ext_nil (fun q h => (by cases h)) (enF c175_6_k) (fun _ h => (by cases h))

noncomputable def c182_2 : Ct := (182, 2, (34, (zt2 [qtN 33 0 59]), [((.ofNat 1), [(19, (.negSucc 0)), (20, (.negSucc 0)), (21, (.negSucc 0)), (22, (.negSucc 0))])], [qvR 0, qvK (.ofNat 2), qvS 33], zh48, [(1, [1], []), (2, [1], [])]),
  [((35, [qtA 34], [], [qvS 34], zh48, [(1, [1], []), (2, [1], [])]), 0, 0)])
noncomputable def c182_2_e : List Ct := [c145_0]
noncomputable def c182_2_pts : List PE := []
set_option maxRecDepth 100000 in
theorem c182_2_k : enCtF c182_2 c182_2_e (pkP (c182_2_pts ++ []) []) (none) ((hOr (atPc 3 (fRec 2)) (atPc 225 (fCut 8 (.negSucc 0)))), noM, 0, 53919893334301279589334030174039261347274288845081144962207220498440, 34) 3000 = true := by decide +kernel
set_option maxRecDepth 100000 in
theorem c182_2_v : ValidC PPk c182_2 := ct_ok fpk ⟨(hOr_ok (atPc_ok (fRec_ok 2)) (atPc_ok (fCut_ok 8 (.negSucc 0)))), noM_ok⟩ (d := 1) (ext := []) (pts := c182_2_pts) (env := c182_2_e) rfl (List.forall_mem_cons.mpr ⟨⟨c145_0_v, Nat.le_of_ble_eq_true rfl⟩, fun _ h => (by cases h)⟩) ext_nil (fun q h => (by cases h)) (enF c182_2_k) (fun _ h => (by cases h))

noncomputable def c181_2 : Ct := (181, 3, (35, (zt2 [qtN 33 0 5, (34, (.negSucc 0), (.ofNat 40))]), [((.ofNat 1), [(19, (.negSucc 0)), (20, (.negSucc 0)), (21, (.negSucc 0)), (22, (.negSucc 0))])], [qvR 0, qvK (.ofNat 2), qvS 33, qvS 34], zh48, [(1, [1], []), (2, [1], [])]),
  [((36, [qtN 35 0 1], [], [qvS 35], zh48, [(1, [1], []), (2, [1], [])]), 0, 0)])
noncomputable def c181_2_e : List Ct := [c182_2]
noncomputable def c181_2_p0 : PE := (37, [0, 1, 2, 3, 4, 5, 6, 7], (37, (zt2 [qtN 33 0 5, (34, (.negSucc 0), (.ofNat 40)), qtN 35 0 60, qtN 36 0 60]), [((.ofNat 1), [(19, (.negSucc 0)), (20, (.negSucc 0)), (21, (.negSucc 0)), (22, (.negSucc 0))])], [qvR 0, qvK (.ofNat 2), qvS 33, qvS 34, qvS 35, qvS 36, qvS 35, qvS 34], zh48, [(1, [1], []), (2, [1], [])]), symsL 35 0, some ((.ofNat 34359738368), []), 0, 0)
noncomputable def c181_2_p1 : PE := (37, [0, 1, 2, 3, 4, 5, 6, 7, 8], (39, (zt104 [qtN 33 0 5, (34, (.negSucc 0), (.negSucc 0)), qtN 35 0 59, qtN 36 1 60, qtA 37, (38, (.negSucc 2147483647), (.negSucc 1))]), [((.ofNat 1), [(19, (.negSucc 0)), (20, (.negSucc 0)), (21, (.negSucc 0)), (22, (.negSucc 0))])], [qvR 0, qvK (.ofNat 2), qvS 33, qvS 34, qvS 35, qvS 36, qvS 37, qvS 38, qvS 37], zh48, [(1, [1], []), (2, [1], [])]), symsL 35 0, some ((.ofNat 8589934592), [(38, (.ofNat 1))]), 0, 0)
noncomputable def c181_2_p2 : PE := (37, [0, 1, 2, 3, 4, 5, 6, 7, 8], (39, (zt104 [qtN 33 0 5, (34, (.negSucc 0), (.ofNat 40)), qtN 35 0 59, qtN 36 1 60, qtA 37, qtN 38 0 2147483647]), [((.ofNat 1), [(19, (.negSucc 0)), (20, (.negSucc 0)), (21, (.negSucc 0)), (22, (.negSucc 0))])], [qvR 0, qvK (.ofNat 2), qvS 33, qvS 34, qvS 35, qvS 36, qvS 37, qvS 38, qvS 37], zh48, [(1, [1], []), (2, [1], [])]), symsL 35 0, some (sL 38), 0, 0)
noncomputable def c181_2_pts : List PE := [c181_2_p0, c181_2_p1, c181_2_p2]
set_option maxRecDepth 100000 in
theorem c181_2_k : enCtF c181_2 c181_2_e (pkP (c181_2_pts ++ []) [0]) (none) ((hOr (atPc 37 (fCut 7 (.negSucc 0))) (atPc 69 (fCut 7 (.negSucc 2147483647)))), noM, 137438953472, 590295810496144605184, 35) 3000 = true := by decide +kernel
set_option maxRecDepth 100000 in
theorem c181_2_k0 : ptCtF c181_2 c181_2_e (pkP (c181_2_pts ++ []) [1, 2]) ((hOr (atPc 37 (fCut 7 (.negSucc 0))) (atPc 69 (fCut 7 (.negSucc 2147483647)))), noM, 137438953472, 590295810496144605184, 35) 3000 c181_2_p0 = true := by decide +kernel
set_option maxRecDepth 100000 in
theorem c181_2_k1 : ptCtF c181_2 c181_2_e (pkP (c181_2_pts ++ []) [2, 1]) ((hOr (atPc 37 (fCut 7 (.negSucc 0))) (atPc 69 (fCut 7 (.negSucc 2147483647)))), noM, 137438953472, 590295810496144605184, 35) 3000 c181_2_p1 = true := by decide +kernel
set_option maxRecDepth 100000 in
theorem c181_2_k2 : ptCtF c181_2 c181_2_e (pkP (c181_2_pts ++ []) [2]) ((hOr (atPc 37 (fCut 7 (.negSucc 0))) (atPc 69 (fCut 7 (.negSucc 2147483647)))), noM, 137438953472, 590295810496144605184, 35) 3000 c181_2_p2 = true := by decide +kernel
set_option maxRecDepth 100000 in
theorem c181_2_v : ValidC PPk c181_2 := ct_ok fpk ⟨(hOr_ok (atPc_ok (fCut_ok 7 (.negSucc 0))) (atPc_ok (fCut_ok 7 (.negSucc 2147483647)))), noM_ok⟩ (d := 2) (ext := []) (pts := c181_2_pts) (env := c181_2_e) rfl (List.forall_mem_cons.mpr ⟨⟨c182_2_v, Nat.le_of_ble_eq_true rfl⟩, fun _ h => (by cases h)⟩) ext_nil (fun q h => (by cases h)) (enF c181_2_k) (List.forall_mem_cons.mpr ⟨⟨_, ptF c181_2_k0⟩, List.forall_mem_cons.mpr ⟨⟨_, ptF c181_2_k1⟩, List.forall_mem_cons.mpr ⟨⟨_, ptF c181_2_k2⟩, fun _ h => (by cases h)⟩⟩⟩)

noncomputable def c175_7 : Ct := (175, 1, (33, (zt2 []), [((.ofNat 1), [(19, (.negSucc 0)), (20, (.negSucc 0)), (21, (.negSucc 0)), (22, (.negSucc 0))])], [qvR 0, qvK (.ofNat 3), qvK (.ofNat 16)], zh48, [(1, [1], []), (2, [1], [])]),
  [((34, [qtA 33], [], [qvS 33], zh48, [(1, [1], []), (2, [1], [])]), 0, 0)])
noncomputable def c175_7_e : List Ct := []
noncomputable def c175_7_pts : List PE := []
set_option maxRecDepth 100000 in
theorem c175_7_k : enCtF c175_7 c175_7_e (pkP (c175_7_pts ++ []) []) (none) noH 3000 = true := by decide +kernel
set_option maxRecDepth 100000 in
theorem c175_7_v : ValidC PPk c175_7 := ct_ok fpk noH_ok (d := 0) (ext := []) (pts := c175_7_pts) (env := c175_7_e) rfl (fun _ h => (by cases h)) ext_nil (fun q h => (by cases h)) (enF c175_7_k) (fun _ h => (by cases h))

noncomputable def c182_3 : Ct := (182, 2, (34, (zt2 [qtN 33 0 59]), [((.ofNat 1), [(19, (.negSucc 0)), (20, (.negSucc 0)), (21, (.negSucc 0)), (22, (.negSucc 0))])], [qvR 0, qvK (.ofNat 3), qvS 33], zh48, [(1, [1], []), (2, [1], [])]),
  [((35, [qtA 34], [], [qvS 34], zh48, [(1, [1], []), (2, [1], [])]), 0, 0)])
noncomputable def c182_3_e : List Ct := [c145_0]
noncomputable def c182_3_pts : List PE := []
set_option maxRecDepth 100000 in
theorem c182_3_k : enCtF c182_3 c182_3_e (pkP (c182_3_pts ++ []) []) (none) ((hOr (atPc 3 (fRec 2)) (atPc 225 (fCut 8 (.negSucc 0)))), noM, 0, 53919893334301279589334030174039261347274288845081144962207220498440, 34) 3000 = true := by decide +kernel
set_option maxRecDepth 100000 in
theorem c182_3_v : ValidC PPk c182_3 := ct_ok fpk ⟨(hOr_ok (atPc_ok (fRec_ok 2)) (atPc_ok (fCut_ok 8 (.negSucc 0)))), noM_ok⟩ (d := 1) (ext := []) (pts := c182_3_pts) (env := c182_3_e) rfl (List.forall_mem_cons.mpr ⟨⟨c145_0_v, Nat.le_of_ble_eq_true rfl⟩, fun _ h => (by cases h)⟩) ext_nil (fun q h => (by cases h)) (enF c182_3_k) (fun _ h => (by cases h))

noncomputable def c181_3 : Ct := (181, 3, (35, (zt2 [qtN 33 0 5, (34, (.negSucc 0), (.ofNat 40))]), [((.ofNat 1), [(19, (.negSucc 0)), (20, (.negSucc 0)), (21, (.negSucc 0)), (22, (.negSucc 0))])], [qvR 0, qvK (.ofNat 3), qvS 33, qvS 34], zh48, [(1, [1], []), (2, [1], [])]),
  [((36, [qtN 35 0 1], [], [qvS 35], zh48, [(1, [1], []), (2, [1], [])]), 0, 0)])
noncomputable def c181_3_e : List Ct := [c182_3]
noncomputable def c181_3_p0 : PE := (37, [0, 1, 2, 3, 4, 5, 6, 7], (37, (zt2 [qtN 33 0 5, (34, (.negSucc 0), (.ofNat 40)), qtN 35 0 60, qtN 36 0 60]), [((.ofNat 1), [(19, (.negSucc 0)), (20, (.negSucc 0)), (21, (.negSucc 0)), (22, (.negSucc 0))])], [qvR 0, qvK (.ofNat 3), qvS 33, qvS 34, qvS 35, qvS 36, qvS 35, qvS 34], zh48, [(1, [1], []), (2, [1], [])]), symsL 35 0, some ((.ofNat 34359738368), []), 0, 0)
noncomputable def c181_3_p1 : PE := (37, [0, 1, 2, 3, 4, 5, 6, 7, 8], (39, (zt104 [qtN 33 0 5, (34, (.negSucc 0), (.negSucc 0)), qtN 35 0 59, qtN 36 1 60, qtA 37, (38, (.negSucc 2147483647), (.negSucc 1))]), [((.ofNat 1), [(19, (.negSucc 0)), (20, (.negSucc 0)), (21, (.negSucc 0)), (22, (.negSucc 0))])], [qvR 0, qvK (.ofNat 3), qvS 33, qvS 34, qvS 35, qvS 36, qvS 37, qvS 38, qvS 37], zh48, [(1, [1], []), (2, [1], [])]), symsL 35 0, some ((.ofNat 8589934592), [(38, (.ofNat 1))]), 0, 0)
noncomputable def c181_3_p2 : PE := (37, [0, 1, 2, 3, 4, 5, 6, 7, 8], (39, (zt104 [qtN 33 0 5, (34, (.negSucc 0), (.ofNat 40)), qtN 35 0 59, qtN 36 1 60, qtA 37, qtN 38 0 2147483647]), [((.ofNat 1), [(19, (.negSucc 0)), (20, (.negSucc 0)), (21, (.negSucc 0)), (22, (.negSucc 0))])], [qvR 0, qvK (.ofNat 3), qvS 33, qvS 34, qvS 35, qvS 36, qvS 37, qvS 38, qvS 37], zh48, [(1, [1], []), (2, [1], [])]), symsL 35 0, some (sL 38), 0, 0)
noncomputable def c181_3_pts : List PE := [c181_3_p0, c181_3_p1, c181_3_p2]
set_option maxRecDepth 100000 in
theorem c181_3_k : enCtF c181_3 c181_3_e (pkP (c181_3_pts ++ []) [0]) (none) ((hOr (atPc 37 (fCut 7 (.negSucc 0))) (atPc 69 (fCut 7 (.negSucc 2147483647)))), noM, 137438953472, 590295810496144605184, 35) 3000 = true := by decide +kernel
set_option maxRecDepth 100000 in
theorem c181_3_k0 : ptCtF c181_3 c181_3_e (pkP (c181_3_pts ++ []) [1, 2]) ((hOr (atPc 37 (fCut 7 (.negSucc 0))) (atPc 69 (fCut 7 (.negSucc 2147483647)))), noM, 137438953472, 590295810496144605184, 35) 3000 c181_3_p0 = true := by decide +kernel
set_option maxRecDepth 100000 in
theorem c181_3_k1 : ptCtF c181_3 c181_3_e (pkP (c181_3_pts ++ []) [2, 1]) ((hOr (atPc 37 (fCut 7 (.negSucc 0))) (atPc 69 (fCut 7 (.negSucc 2147483647)))), noM, 137438953472, 590295810496144605184, 35) 3000 c181_3_p1 = true := by decide +kernel
set_option maxRecDepth 100000 in
theorem c181_3_k2 : ptCtF c181_3 c181_3_e (pkP (c181_3_pts ++ []) [2]) ((hOr (atPc 37 (fCut 7 (.negSucc 0))) (atPc 69 (fCut 7 (.negSucc 2147483647)))), noM, 137438953472, 590295810496144605184, 35) 3000 c181_3_p2 = true := by decide +kernel
set_option maxRecDepth 100000 in
theorem c181_3_v : ValidC PPk c181_3 := ct_ok fpk ⟨(hOr_ok (atPc_ok (fCut_ok 7 (.negSucc 0))) (atPc_ok (fCut_ok 7 (.negSucc 2147483647)))), noM_ok⟩ (d := 2) (ext := []) (pts := c181_3_pts) (env := c181_3_e) rfl (List.forall_mem_cons.mpr ⟨⟨c182_3_v, Nat.le_of_ble_eq_true rfl⟩, fun _ h => (by cases h)⟩) ext_nil (fun q h => (by cases h)) (enF c181_3_k) (List.forall_mem_cons.mpr ⟨⟨_, ptF c181_3_k0⟩, List.forall_mem_cons.mpr ⟨⟨_, ptF c181_3_k1⟩, List.forall_mem_cons.mpr ⟨⟨_, ptF c181_3_k2⟩, fun _ h => (by cases h)⟩⟩⟩)

noncomputable def zt105 (r : TbL) : TbL := qtN 0 0 69 :: qtN 1 0 69 :: qtN 2 0 8 :: qtA 3 :: qtA 4 :: qtA 5 :: qtA 6 :: qtA 7 :: qtA 8 :: qtA 9 :: qtN 10 1 4 :: qtN 11 0 60 :: qtN 12 0 8 :: qtN 13 0 6 :: qtN 14 0 8 :: qtN 15 0 60 :: qtN 16 0 60 :: qtN 17 0 10 :: qtA 18 :: r
noncomputable def zt106 (r : TbL) : TbL := qtN 0 0 69 :: qtN 1 0 69 :: qtN 2 0 8 :: qtA 3 :: qtA 4 :: qtA 5 :: qtA 6 :: qtA 7 :: qtA 8 :: qtA 9 :: qtN 10 1 4 :: qtN 11 0 60 :: qtN 12 0 0 :: qtN 13 0 6 :: qtN 14 0 8 :: qtN 15 0 60 :: qtN 16 0 60 :: qtN 17 0 10 :: qtA 18 :: qtN 19 1 1 :: qtN 20 0 1 :: qtN 21 0 1 :: qtN 22 0 1 :: r
noncomputable def zt107 (r : TbL) : TbL := qtN 0 0 69 :: qtN 1 0 69 :: qtN 2 0 8 :: qtA 3 :: qtA 4 :: qtA 5 :: qtA 6 :: qtA 7 :: qtA 8 :: qtA 9 :: qtN 10 1 4 :: qtN 11 0 60 :: qtN 12 1 8 :: qtN 13 0 6 :: qtN 14 0 8 :: qtN 15 0 60 :: qtN 16 0 60 :: qtN 17 0 10 :: qtA 18 :: qtN 19 1 1 :: qtN 20 0 1 :: qtN 21 0 1 :: qtN 22 0 1 :: r
noncomputable def zt108 (r : TbL) : TbL := qtN 0 0 69 :: qtN 1 0 69 :: qtN 2 0 8 :: qtA 3 :: qtA 4 :: qtA 5 :: qtA 6 :: qtA 7 :: qtA 8 :: qtA 9 :: qtN 10 2 4 :: qtN 11 0 60 :: qtN 12 0 8 :: qtN 13 0 6 :: qtN 14 0 8 :: qtN 15 0 60 :: qtN 16 0 60 :: qtN 17 0 10 :: qtA 18 :: r
noncomputable def zt109 (r : TbL) : TbL := qtN 0 0 69 :: qtN 1 0 69 :: qtN 2 0 8 :: qtA 3 :: qtA 4 :: qtA 5 :: qtA 6 :: qtA 7 :: qtA 8 :: qtA 9 :: qtN 10 2 4 :: qtN 11 0 60 :: qtN 12 0 0 :: qtN 13 0 6 :: qtN 14 0 8 :: qtN 15 0 60 :: qtN 16 0 60 :: qtN 17 0 10 :: qtA 18 :: qtN 19 0 1 :: qtN 20 0 1 :: qtN 21 0 1 :: qtN 22 0 1 :: r
noncomputable def zt110 (r : TbL) : TbL := qtN 0 0 69 :: qtN 1 0 69 :: qtN 2 0 8 :: qtA 3 :: qtA 4 :: qtA 5 :: qtA 6 :: qtA 7 :: qtA 8 :: qtA 9 :: qtN 10 2 4 :: qtN 11 0 60 :: qtN 12 1 8 :: qtN 13 0 6 :: qtN 14 0 8 :: qtN 15 0 60 :: qtN 16 0 60 :: qtN 17 0 10 :: qtA 18 :: qtN 19 0 1 :: qtN 20 0 1 :: qtN 21 0 1 :: qtN 22 0 1 :: r
noncomputable def zt111 (r : TbL) : TbL := qtN 0 0 69 :: qtN 1 0 69 :: qtN 2 0 8 :: qtA 3 :: qtA 4 :: qtA 5 :: qtA 6 :: qtA 7 :: qtA 8 :: qtA 9 :: qtN 10 3 4 :: qtN 11 0 60 :: qtN 12 0 8 :: qtN 13 0 6 :: qtN 14 0 8 :: qtN 15 0 60 :: qtN 16 0 60 :: qtN 17 0 10 :: qtA 18 :: r
noncomputable def zt112 (r : TbL) : TbL := qtN 0 0 69 :: qtN 1 0 69 :: qtN 2 0 8 :: qtA 3 :: qtA 4 :: qtA 5 :: qtA 6 :: qtA 7 :: qtA 8 :: qtA 9 :: qtN 10 3 4 :: qtN 11 0 60 :: qtN 12 0 0 :: qtN 13 0 6 :: qtN 14 0 8 :: qtN 15 0 60 :: qtN 16 0 60 :: qtN 17 0 10 :: qtA 18 :: qtN 19 0 1 :: qtN 20 0 1 :: qtN 21 0 1 :: qtN 22 0 1 :: r
noncomputable def zt113 (r : TbL) : TbL := qtN 0 0 69 :: qtN 1 0 69 :: qtN 2 0 8 :: qtA 3 :: qtA 4 :: qtA 5 :: qtA 6 :: qtA 7 :: qtA 8 :: qtA 9 :: qtN 10 3 4 :: qtN 11 0 60 :: qtN 12 1 8 :: qtN 13 0 6 :: qtN 14 0 8 :: qtN 15 0 60 :: qtN 16 0 60 :: qtN 17 0 10 :: qtA 18 :: qtN 19 0 1 :: qtN 20 0 1 :: qtN 21 0 1 :: qtN 22 0 1 :: r
noncomputable def zt114 (r : TbL) : TbL := qtN 0 0 69 :: qtN 1 0 69 :: qtN 2 0 8 :: qtA 3 :: qtA 4 :: qtA 5 :: qtA 6 :: qtA 7 :: qtA 8 :: qtA 9 :: qtN 10 4 4 :: qtN 11 0 60 :: qtN 12 0 0 :: qtN 13 0 6 :: qtN 14 0 8 :: qtN 15 0 60 :: qtN 16 0 60 :: qtN 17 0 10 :: qtA 18 :: qtN 19 0 1 :: qtN 20 0 1 :: qtN 21 0 1 :: qtN 22 0 1 :: r
noncomputable def zt115 (r : TbL) : TbL := qtN 0 0 69 :: qtN 1 0 69 :: qtN 2 0 8 :: qtA 3 :: qtA 4 :: qtA 5 :: qtA 6 :: qtA 7 :: qtA 8 :: qtA 9 :: qtN 10 4 4 :: qtN 11 0 60 :: qtN 12 1 8 :: qtN 13 0 6 :: qtN 14 0 8 :: qtN 15 0 60 :: qtN 16 0 60 :: qtN 17 0 10 :: qtA 18 :: qtN 19 0 1 :: qtN 20 0 1 :: qtN 21 0 1 :: qtN 22 0 1 :: r
noncomputable def zt116 (r : TbL) : TbL := qtN 0 0 69 :: qtN 1 0 69 :: qtN 2 0 8 :: qtA 3 :: qtA 4 :: qtA 5 :: qtA 6 :: qtA 7 :: qtA 8 :: qtA 9 :: qtN 10 4 4 :: qtN 11 0 60 :: qtN 12 0 8 :: qtN 13 0 6 :: qtN 14 0 8 :: qtN 15 0 60 :: qtN 16 0 60 :: qtN 17 0 10 :: qtA 18 :: r
noncomputable def zt117 (r : TbL) : TbL := qtN 0 0 69 :: qtN 1 0 69 :: qtN 2 0 8 :: qtA 3 :: qtA 4 :: qtA 5 :: qtA 6 :: qtA 7 :: qtA 8 :: qtA 9 :: qtN 10 1 4 :: qtN 11 0 60 :: qtN 12 0 8 :: qtN 13 0 6 :: qtN 14 0 8 :: qtN 15 0 60 :: qtN 16 0 60 :: qtN 17 0 10 :: qtA 18 :: qtN 19 1 1 :: qtN 20 0 1 :: qtN 21 0 1 :: qtN 22 0 1 :: r
noncomputable def zt118 (r : TbL) : TbL := qtN 0 0 69 :: qtN 1 0 69 :: qtN 2 0 8 :: qtA 3 :: qtA 4 :: qtA 5 :: qtA 6 :: qtA 7 :: qtA 8 :: qtA 9 :: qtN 10 2 4 :: qtN 11 0 60 :: qtN 12 1 8 :: qtN 13 0 6 :: qtN 14 0 8 :: qtN 15 0 60 :: qtN 16 0 60 :: qtN 17 0 10 :: qtA 18 :: qtN 19 0 1 :: qtN 20 1 1 :: qtN 21 0 1 :: qtN 22 0 1 :: r
noncomputable def zt119 (r : TbL) : TbL := qtN 0 0 69 :: qtN 1 0 69 :: qtN 2 0 8 :: qtA 3 :: qtA 4 :: qtA 5 :: qtA 6 :: qtA 7 :: qtA 8 :: qtA 9 :: qtN 10 3 4 :: qtN 11 0 60 :: qtN 12 1 8 :: qtN 13 0 6 :: qtN 14 0 8 :: qtN 15 0 60 :: qtN 16 0 60 :: qtN 17 0 10 :: qtA 18 :: qtN 19 0 1 :: qtN 20 0 1 :: qtN 21 1 1 :: qtN 22 0 1 :: r
noncomputable def zt120 (r : TbL) : TbL := qtN 0 0 69 :: qtN 1 0 69 :: qtN 2 0 8 :: qtA 3 :: qtA 4 :: qtA 5 :: qtA 6 :: qtA 7 :: qtA 8 :: qtA 9 :: qtN 10 4 4 :: qtN 11 0 60 :: qtN 12 1 8 :: qtN 13 0 6 :: qtN 14 0 8 :: qtN 15 0 60 :: qtN 16 0 60 :: qtN 17 0 10 :: qtA 18 :: qtN 19 0 1 :: qtN 20 0 1 :: qtN 21 0 1 :: qtN 22 1 1 :: r
noncomputable def c180_0 : Ct := (180, 4, (33, (zt2 []), [((.ofNat 1), [(19, (.negSucc 0)), (20, (.negSucc 0)), (21, (.negSucc 0)), (22, (.negSucc 0))])], [qvR 0], zh48, [(1, [1], []), (2, [1], [])]),
  [((33, [], [], [], zh48, [(1, [1], []), (2, [1], [])]), 0, 0)])
noncomputable def c180_0_e : List Ct := [c175_0, c175_1, c175_2, c175_3, c175_4, c175_5, c175_6, c175_7, c181_0, c181_1, c181_2, c181_3]
noncomputable def c180_0_p0 : PE := (10, [1, 0], (33, (zt2 []), [((.ofNat 1), [(19, (.negSucc 0)), (20, (.negSucc 0)), (21, (.negSucc 0)), (22, (.negSucc 0))])], [qvK (.ofNat 0), qvR 0], zh48, [(1, [1], []), (2, [1], [])]), symsL 33 0, some ((.ofNat 539847), []), 0, 0)
noncomputable def c180_0_p1 : PE := (10, [1, 0, 2], (33, (zt2 []), [((.ofNat 1), [(19, (.negSucc 0)), (20, (.negSucc 0)), (21, (.negSucc 0)), (22, (.negSucc 0))])], [qvK (.ofNat 1), qvR 0, qvK (.ofNat 8)], zh48, [(1, [1], []), (2, [1], [])]), symsL 33 0, some ((.ofNat 521766), []), 0, 0)
noncomputable def c180_0_p2 : PE := (10, [1, 0, 2], (33, (zt2 []), [((.ofNat 1), [(19, (.negSucc 0)), (20, (.negSucc 0)), (21, (.negSucc 0)), (22, (.negSucc 0))])], [qvK (.ofNat 2), qvR 0, qvK (.ofNat 8)], zh48, [(1, [1], []), (2, [1], [])]), symsL 33 0, some ((.ofNat 503685), []), 0, 0)
noncomputable def c180_0_p3 : PE := (10, [1, 0, 2], (33, (zt2 []), [((.ofNat 1), [(19, (.negSucc 0)), (20, (.negSucc 0)), (21, (.negSucc 0)), (22, (.negSucc 0))])], [qvK (.ofNat 3), qvR 0, qvK (.ofNat 8)], zh48, [(1, [1], []), (2, [1], [])]), symsL 33 0, some ((.ofNat 485604), []), 0, 0)
noncomputable def c180_0_p4 : PE := (10, [1, 0, 2], (33, (zt2 []), [((.ofNat 1), [(19, (.negSucc 0)), (20, (.negSucc 0)), (21, (.negSucc 0)), (22, (.negSucc 0))])], [qvK (.ofNat 4), qvR 0, qvK (.ofNat 8)], zh48, [(1, [1], []), (2, [1], [])]), symsL 33 0, some ((.ofNat 467523), []), 0, 0)
noncomputable def c180_0_p5 : PE := (17, [1, 0, 2], (34, (zt2 [qtN 33 0 8]), [((.ofNat 1), [(19, (.negSucc 0)), (20, (.negSucc 0)), (21, (.negSucc 0)), (22, (.negSucc 0))])], [qvK (.ofNat 0), qvR 0, qvS 33], zh48, [(1, [1], []), (2, [1], [])]), symsL 33 0, some ((.ofNat 535239), [(33, (.negSucc 62))]), 0, 0)
noncomputable def c180_0_p6 : PE := (17, [1, 0, 2], (34, (zt2 [qtN 33 0 8]), [((.ofNat 1), [(19, (.negSucc 0)), (20, (.negSucc 0)), (21, (.negSucc 0)), (22, (.negSucc 0))])], [qvK (.ofNat 1), qvR 0, qvS 33], zh48, [(1, [1], []), (2, [1], [])]), symsL 33 0, some ((.ofNat 517158), [(33, (.negSucc 62))]), 0, 0)
noncomputable def c180_0_p7 : PE := (17, [1, 0, 2], (34, (zt2 [qtN 33 0 8]), [((.ofNat 1), [(19, (.negSucc 0)), (20, (.negSucc 0)), (21, (.negSucc 0)), (22, (.negSucc 0))])], [qvK (.ofNat 2), qvR 0, qvS 33], zh48, [(1, [1], []), (2, [1], [])]), symsL 33 0, some ((.ofNat 499077), [(33, (.negSucc 62))]), 0, 0)
noncomputable def c180_0_p8 : PE := (17, [1, 0, 2], (34, (zt2 [qtN 33 0 8]), [((.ofNat 1), [(19, (.negSucc 0)), (20, (.negSucc 0)), (21, (.negSucc 0)), (22, (.negSucc 0))])], [qvK (.ofNat 3), qvR 0, qvS 33], zh48, [(1, [1], []), (2, [1], [])]), symsL 33 0, some ((.ofNat 480996), [(33, (.negSucc 62))]), 0, 0)
noncomputable def c180_0_p9 : PE := (71, [1, 0, 2], (33, (zt2 []), [((.ofNat 1), [(19, (.negSucc 0)), (20, (.negSucc 0)), (21, (.negSucc 0)), (22, (.negSucc 0))])], [qvK (.ofNat 0), qvR 0, qvK (.ofNat 8)], zh48, [(1, [1], []), (2, [1], [])]), symsL 33 0, some ((.ofNat 359037), []), 0, 0)
noncomputable def c180_0_p10 : PE := (71, [1, 0, 2], (33, (zt105 [qtN 19 0 0, qtN 20 0 1, qtN 21 0 1, qtN 22 0 1]), [((.ofNat 1), [(19, (.negSucc 0)), (20, (.negSucc 0)), (21, (.negSucc 0)), (22, (.negSucc 0))])], [qvK (.ofNat 1), qvR 0, qvK (.ofNat 0)], zh48, [(1, [1], []), (2, [1], [])]), symsL 33 0, some ((.ofNat 340956), []), 0, 0)
noncomputable def c180_0_p11 : PE := (71, [1, 0, 2, 3], (33, (zt106 []), [((.ofNat 1), [(19, (.negSucc 0)), (20, (.negSucc 0)), (21, (.negSucc 0)), (22, (.negSucc 0))])], [qvK (.ofNat 1), qvR 0, qvK (.ofNat 40), qvK (.ofNat 0)], zh48, [(1, [1], []), (2, [1], [])]), symsL 33 0, some ((.ofNat 340956), []), 0, 0)
noncomputable def c180_0_p12 : PE := (71, [1, 0, 2, 3, 4], (35, (zt107 [qtN 33 1 8, qtN 34 692 910]), [((.ofNat 1), [(19, (.negSucc 0)), (20, (.negSucc 0)), (21, (.negSucc 0)), (22, (.negSucc 0))])], [qvK (.ofNat 1), qvR 0, qvK (.ofNat 40), qvS 33, qvS 34], zh48, [(1, [1], []), (2, [1], [])]), symsL 33 0, some ((.ofNat 340956), []), 0, 0)
noncomputable def c180_0_p13 : PE := (71, [1, 0, 2], (33, (zt108 [qtN 19 0 0, qtN 20 0 0, qtN 21 0 1, qtN 22 0 1]), [((.ofNat 1), [(19, (.negSucc 0)), (20, (.negSucc 0)), (21, (.negSucc 0)), (22, (.negSucc 0))])], [qvK (.ofNat 2), qvR 0, qvK (.ofNat 0)], zh48, [(1, [1], []), (2, [1], [])]), symsL 33 0, some ((.ofNat 322875), []), 0, 0)
noncomputable def c180_0_p14 : PE := (71, [1, 0, 2, 3], (34, (zt109 [qtN 33 0 40]), [((.ofNat 1), [(19, (.negSucc 0)), (20, (.negSucc 0)), (21, (.negSucc 0)), (22, (.negSucc 0))])], [qvK (.ofNat 2), qvR 0, qvS 33, qvK (.ofNat 0)], zh48, [(1, [1], []), (2, [1], [])]), symsL 33 0, some ((.ofNat 322875), []), 0, 0)
noncomputable def c180_0_p15 : PE := (71, [1, 0, 2, 3, 4], (36, (zt110 [qtN 33 0 40, qtN 34 1 8, qtN 35 692 910]), [((.ofNat 1), [(19, (.negSucc 0)), (20, (.negSucc 0)), (21, (.negSucc 0)), (22, (.negSucc 0))])], [qvK (.ofNat 2), qvR 0, qvS 33, qvS 34, qvS 35], zh48, [(1, [1], []), (2, [1], [])]), symsL 33 0, some ((.ofNat 322875), []), 0, 0)
noncomputable def c180_0_p16 : PE := (71, [1, 0, 2], (33, (zt111 [qtN 19 0 0, qtN 20 0 0, qtN 21 0 0, qtN 22 0 1]), [((.ofNat 1), [(19, (.negSucc 0)), (20, (.negSucc 0)), (21, (.negSucc 0)), (22, (.negSucc 0))])], [qvK (.ofNat 3), qvR 0, qvK (.ofNat 0)], zh48, [(1, [1], []), (2, [1], [])]), symsL 33 0, some ((.ofNat 304794), []), 0, 0)
noncomputable def c180_0_p17 : PE := (71, [1, 0, 2, 3], (34, (zt112 [qtN 33 0 40]), [((.ofNat 1), [(19, (.negSucc 0)), (20, (.negSucc 0)), (21, (.negSucc 0)), (22, (.negSucc 0))])], [qvK (.ofNat 3), qvR 0, qvS 33, qvK (.ofNat 0)], zh48, [(1, [1], []), (2, [1], [])]), symsL 33 0, some ((.ofNat 304794), []), 0, 0)
noncomputable def c180_0_p18 : PE := (71, [1, 0, 2, 3, 4], (36, (zt113 [qtN 33 0 40, qtN 34 1 8, qtN 35 692 910]), [((.ofNat 1), [(19, (.negSucc 0)), (20, (.negSucc 0)), (21, (.negSucc 0)), (22, (.negSucc 0))])], [qvK (.ofNat 3), qvR 0, qvS 33, qvS 34, qvS 35], zh48, [(1, [1], []), (2, [1], [])]), symsL 33 0, some ((.ofNat 304794), []), 0, 0)
noncomputable def c180_0_p19 : PE := (71, [1, 0, 2, 3], (34, (zt114 [qtN 33 0 40]), [((.ofNat 1), [(19, (.negSucc 0)), (20, (.negSucc 0)), (21, (.negSucc 0)), (22, (.negSucc 0))])], [qvK (.ofNat 4), qvR 0, qvS 33, qvK (.ofNat 0)], zh48, [(1, [1], []), (2, [1], [])]), symsL 33 0, some ((.ofNat 286713), []), 0, 0)
noncomputable def c180_0_p20 : PE := (71, [1, 0, 2, 3, 4], (36, (zt115 [qtN 33 0 40, qtN 34 1 8, qtN 35 692 910]), [((.ofNat 1), [(19, (.negSucc 0)), (20, (.negSucc 0)), (21, (.negSucc 0)), (22, (.negSucc 0))])], [qvK (.ofNat 4), qvR 0, qvS 33, qvS 34, qvS 35], zh48, [(1, [1], []), (2, [1], [])]), symsL 33 0, some ((.ofNat 286713), []), 0, 0)
noncomputable def c180_0_p21 : PE := (83, [1, 0, 2], (33, (zt2 []), [((.ofNat 1), [(19, (.negSucc 0)), (20, (.negSucc 0)), (21, (.negSucc 0)), (22, (.negSucc 0))])], [qvK (.ofNat 0), qvR 0, qvK (.ofNat 0)], zh48, [(1, [1], []), (2, [1], [])]), symsL 33 0, some ((.ofNat 351279), []), 0, 0)
noncomputable def c180_0_p22 : PE := (83, [1, 0, 2, 3], (34, (zt106 [qtN 33 1 40]), [((.ofNat 1), [(19, (.negSucc 0)), (20, (.negSucc 0)), (21, (.negSucc 0)), (22, (.negSucc 0))])], [qvK (.ofNat 0), qvR 0, qvS 33, qvK (.ofNat 0)], zh48, [(1, [1], []), (2, [1], [])]), symsL 33 0, some ((.ofNat 351279), [(33, (.negSucc 62))]), 0, 0)
noncomputable def c180_0_p23 : PE := (83, [1, 0, 2, 3, 4], (36, (zt107 [qtN 33 1 40, qtN 34 1 8, qtN 35 692 910]), [((.ofNat 1), [(19, (.negSucc 0)), (20, (.negSucc 0)), (21, (.negSucc 0)), (22, (.negSucc 0))])], [qvK (.ofNat 0), qvR 0, qvS 33, qvS 34, qvS 35], zh48, [(1, [1], []), (2, [1], [])]), symsL 33 0, some ((.ofNat 351279), [(33, (.negSucc 62))]), 0, 0)
noncomputable def c180_0_p24 : PE := (83, [1, 0, 2], (33, (zt108 [qtN 19 0 0, qtN 20 0 1, qtN 21 0 1, qtN 22 0 1]), [((.ofNat 1), [(19, (.negSucc 0)), (20, (.negSucc 0)), (21, (.negSucc 0)), (22, (.negSucc 0))])], [qvK (.ofNat 1), qvR 0, qvK (.ofNat 0)], zh48, [(1, [1], []), (2, [1], [])]), symsL 33 0, some ((.ofNat 333198), []), 0, 0)
noncomputable def c180_0_p25 : PE := (83, [1, 0, 2, 3], (34, (zt109 [qtN 33 0 40]), [((.ofNat 1), [(19, (.negSucc 0)), (20, (.negSucc 0)), (21, (.negSucc 0)), (22, (.negSucc 0))])], [qvK (.ofNat 1), qvR 0, qvS 33, qvK (.ofNat 0)], zh48, [(1, [1], []), (2, [1], [])]), symsL 33 0, some ((.ofNat 333198), [(33, (.negSucc 62))]), 0, 0)
noncomputable def c180_0_p26 : PE := (83, [1, 0, 2, 3, 4], (36, (zt110 [qtN 33 0 40, qtN 34 1 8, qtN 35 692 910]), [((.ofNat 1), [(19, (.negSucc 0)), (20, (.negSucc 0)), (21, (.negSucc 0)), (22, (.negSucc 0))])], [qvK (.ofNat 1), qvR 0, qvS 33, qvS 34, qvS 35], zh48, [(1, [1], []), (2, [1], [])]), symsL 33 0, some ((.ofNat 333198), [(33, (.negSucc 62))]), 0, 0)
noncomputable def c180_0_p27 : PE := (83, [1, 0, 2], (33, (zt111 [qtN 19 0 0, qtN 20 0 0, qtN 21 0 1, qtN 22 0 1]), [((.ofNat 1), [(19, (.negSucc 0)), (20, (.negSucc 0)), (21, (.negSucc 0)), (22, (.negSucc 0))])], [qvK (.ofNat 2), qvR 0, qvK (.ofNat 0)], zh48, [(1, [1], []), (2, [1], [])]), symsL 33 0, some ((.ofNat 315117), []), 0, 0)
noncomputable def c180_0_p28 : PE := (83, [1, 0, 2, 3], (34, (zt112 [qtN 33 0 40]), [((.ofNat 1), [(19, (.negSucc 0)), (20, (.negSucc 0)), (21, (.negSucc 0)), (22, (.negSucc 0))])], [qvK (.ofNat 2), qvR 0, qvS 33, qvK (.ofNat 0)], zh48, [(1, [1], []), (2, [1], [])]), symsL 33 0, some ((.ofNat 315117), [(33, (.negSucc 62))]), 0, 0)
noncomputable def c180_0_p29 : PE := (83, [1, 0, 2, 3, 4], (36, (zt113 [qtN 33 0 40, qtN 34 1 8, qtN 35 692 910]), [((.ofNat 1), [(19, (.negSucc 0)), (20, (.negSucc 0)), (21, (.negSucc 0)), (22, (.negSucc 0))])], [qvK (.ofNat 2), qvR 0, qvS 33, qvS 34, qvS 35], zh48, [(1, [1], []), (2, [1], [])]), symsL 33 0, some ((.ofNat 315117), [(33, (.negSucc 62))]), 0, 0)
noncomputable def c180_0_p30 : PE := (83, [1, 0, 2], (33, (zt116 [qtN 19 0 0, qtN 20 0 0, qtN 21 0 0, qtN 22 0 1]), [((.ofNat 1), [(19, (.negSucc 0)), (20, (.negSucc 0)), (21, (.negSucc 0)), (22, (.negSucc 0))])], [qvK (.ofNat 3), qvR 0, qvK (.ofNat 0)], zh48, [(1, [1], []), (2, [1], [])]), symsL 33 0, some ((.ofNat 297036), []), 0, 0)
noncomputable def c180_0_p31 : PE := (83, [1, 0, 2, 3], (34, (zt114 [qtN 33 0 40]), [((.ofNat 1), [(19, (.negSucc 0)), (20, (.negSucc 0)), (21, (.negSucc 0)), (22, (.negSucc 0))])], [qvK (.ofNat 3), qvR 0, qvS 33, qvK (.ofNat 0)], zh48, [(1, [1], []), (2, [1], [])]), symsL 33 0, some ((.ofNat 297036), [(33, (.negSucc 62))]), 0, 0)
noncomputable def c180_0_p32 : PE := (83, [1, 0, 2, 3, 4], (36, (zt115 [qtN 33 0 40, qtN 34 1 8, qtN 35 692 910]), [((.ofNat 1), [(19, (.negSucc 0)), (20, (.negSucc 0)), (21, (.negSucc 0)), (22, (.negSucc 0))])], [qvK (.ofNat 3), qvR 0, qvS 33, qvS 34, qvS 35], zh48, [(1, [1], []), (2, [1], [])]), symsL 33 0, some ((.ofNat 297036), [(33, (.negSucc 62))]), 0, 0)
noncomputable def c180_0_p33 : PE := (102, [1, 3, 0, 2], (34, (zt117 [qtN 33 0 39]), [((.ofNat 1), [(19, (.negSucc 0)), (20, (.negSucc 0)), (21, (.negSucc 0)), (22, (.negSucc 0))])], [qvK (.ofNat 0), qvK (.ofNat 0), qvR 0, qvS 33], zh48, [(1, [1], []), (2, [1], [])]), symsL 33 0, some ((.ofNat 351242), [(33, (.negSucc 62))]), 0, 0)
noncomputable def c180_0_p34 : PE := (102, [1, 3, 0, 2, 4], (35, (zt107 [qtN 33 1 39, qtN 34 692 910]), [((.ofNat 1), [(19, (.negSucc 0)), (20, (.negSucc 0)), (21, (.negSucc 0)), (22, (.negSucc 0))])], [qvK (.ofNat 0), qvK (.ofNat 0), qvR 0, qvS 33, qvS 34], zh48, [(1, [1], []), (2, [1], [])]), symsL 33 0, some ((.ofNat 351242), [(33, (.negSucc 62))]), 0, 0)
noncomputable def c180_0_p35 : PE := (102, [1, 3, 0, 2, 4], (34, (zt107 [qtN 33 0 39]), [((.ofNat 1), [(19, (.negSucc 0)), (20, (.negSucc 0)), (21, (.negSucc 0)), (22, (.negSucc 0))])], [qvK (.ofNat 0), qvK (.ofNat 1), qvR 0, qvS 33, qvK (.ofNat 692)], zh48, [(1, [1], []), (2, [1], [])]), symsL 33 0, some ((.ofNat 351241), [(33, (.negSucc 62))]), 0, 0)
noncomputable def c180_0_p36 : PE := (102, [1, 3, 0, 2, 4], (34, (zt5 [qtN 10 1 4, qtN 11 0 60, qtN 12 2 8, qtN 13 0 6, qtN 14 0 8, qtN 15 0 60, qtN 16 0 60, qtN 17 0 10, qtA 18, qtN 19 1 1, qtN 20 0 1, qtN 21 0 1, qtN 22 0 1, qtN 33 0 39]), [((.ofNat 1), [(19, (.negSucc 0)), (20, (.negSucc 0)), (21, (.negSucc 0)), (22, (.negSucc 0))])], [qvK (.ofNat 0), qvK (.ofNat 2), qvR 0, qvS 33, qvK (.ofNat 695)], zh48, [(1, [1], []), (2, [1], [])]), symsL 33 0, some ((.ofNat 351240), [(33, (.negSucc 62))]), 0, 0)
noncomputable def c180_0_p37 : PE := (102, [1, 3, 0, 2, 4], (34, (zt5 [qtN 10 1 4, qtN 11 0 60, qtN 12 3 8, qtN 13 0 6, qtN 14 0 8, qtN 15 0 60, qtN 16 0 60, qtN 17 0 10, qtA 18, qtN 19 1 1, qtN 20 0 1, qtN 21 0 1, qtN 22 0 1, qtN 33 0 39]), [((.ofNat 1), [(19, (.negSucc 0)), (20, (.negSucc 0)), (21, (.negSucc 0)), (22, (.negSucc 0))])], [qvK (.ofNat 0), qvK (.ofNat 3), qvR 0, qvS 33, qvK (.ofNat 698)], zh48, [(1, [1], []), (2, [1], [])]), symsL 33 0, some ((.ofNat 351239), [(33, (.negSucc 62))]), 0, 0)
noncomputable def c180_0_p38 : PE := (102, [1, 3, 0, 2, 4], (34, (zt5 [qtN 10 1 4, qtN 11 0 60, qtN 12 4 8, qtN 13 0 6, qtN 14 0 8, qtN 15 0 60, qtN 16 0 60, qtN 17 0 10, qtA 18, qtN 19 1 1, qtN 20 0 1, qtN 21 0 1, qtN 22 0 1, qtN 33 0 39]), [((.ofNat 1), [(19, (.negSucc 0)), (20, (.negSucc 0)), (21, (.negSucc 0)), (22, (.negSucc 0))])], [qvK (.ofNat 0), qvK (.ofNat 4), qvR 0, qvS 33, qvK (.ofNat 701)], zh48, [(1, [1], []), (2, [1], [])]), symsL 33 0, some ((.ofNat 351238), [(33, (.negSucc 62))]), 0, 0)
noncomputable def c180_0_p39 : PE := (102, [1, 3, 0, 2, 4], (34, (zt5 [qtN 10 1 4, qtN 11 0 60, qtN 12 5 8, qtN 13 0 6, qtN 14 0 8, qtN 15 0 60, qtN 16 0 60, qtN 17 0 10, qtA 18, qtN 19 1 1, qtN 20 0 1, qtN 21 0 1, qtN 22 0 1, qtN 33 0 39]), [((.ofNat 1), [(19, (.negSucc 0)), (20, (.negSucc 0)), (21, (.negSucc 0)), (22, (.negSucc 0))])], [qvK (.ofNat 0), qvK (.ofNat 5), qvR 0, qvS 33, qvK (.ofNat 704)], zh48, [(1, [1], []), (2, [1], [])]), symsL 33 0, some ((.ofNat 351237), [(33, (.negSucc 62))]), 0, 0)
noncomputable def c180_0_p40 : PE := (102, [1, 3, 0, 2, 4], (34, (zt5 [qtN 10 1 4, qtN 11 0 60, qtN 12 6 8, qtN 13 0 6, qtN 14 0 8, qtN 15 0 60, qtN 16 0 60, qtN 17 0 10, qtA 18, qtN 19 1 1, qtN 20 0 1, qtN 21 0 1, qtN 22 0 1, qtN 33 0 39]), [((.ofNat 1), [(19, (.negSucc 0)), (20, (.negSucc 0)), (21, (.negSucc 0)), (22, (.negSucc 0))])], [qvK (.ofNat 0), qvK (.ofNat 6), qvR 0, qvS 33, qvK (.ofNat 707)], zh48, [(1, [1], []), (2, [1], [])]), symsL 33 0, some ((.ofNat 351236), [(33, (.negSucc 62))]), 0, 0)
noncomputable def c180_0_p41 : PE := (102, [1, 3, 0, 2, 4], (34, (zt5 [qtN 10 1 4, qtN 11 0 60, qtN 12 7 8, qtN 13 0 6, qtN 14 0 8, qtN 15 0 60, qtN 16 0 60, qtN 17 0 10, qtA 18, qtN 19 1 1, qtN 20 0 1, qtN 21 0 1, qtN 22 0 1, qtN 33 0 39]), [((.ofNat 1), [(19, (.negSucc 0)), (20, (.negSucc 0)), (21, (.negSucc 0)), (22, (.negSucc 0))])], [qvK (.ofNat 0), qvK (.ofNat 7), qvR 0, qvS 33, qvK (.ofNat 710)], zh48, [(1, [1], []), (2, [1], [])]), symsL 33 0, some ((.ofNat 351235), [(33, (.negSucc 62))]), 0, 0)
noncomputable def c180_0_p42 : PE := (102, [1, 3, 0, 2, 4], (34, (zt5 [qtN 10 1 4, qtN 11 0 60, qtN 12 8 8, qtN 13 0 6, qtN 14 0 8, qtN 15 0 60, qtN 16 0 60, qtN 17 0 10, qtA 18, qtN 19 1 1, qtN 20 0 1, qtN 21 0 1, qtN 22 0 1, qtN 33 0 39]), [((.ofNat 1), [(19, (.negSucc 0)), (20, (.negSucc 0)), (21, (.negSucc 0)), (22, (.negSucc 0))])], [qvK (.ofNat 0), qvK (.ofNat 8), qvR 0, qvS 33, qvK (.ofNat 713)], zh48, [(1, [1], []), (2, [1], [])]), symsL 33 0, some ((.ofNat 351234), [(33, (.negSucc 62))]), 0, 0)
noncomputable def c180_0_p43 : PE := (102, [1, 3, 0, 2], (34, (zt108 [qtN 19 0 1, qtN 20 1 1, qtN 21 0 1, qtN 22 0 1, qtN 33 0 39]), [((.ofNat 1), [(19, (.negSucc 0)), (20, (.negSucc 0)), (21, (.negSucc 0)), (22, (.negSucc 0))])], [qvK (.ofNat 1), qvK (.ofNat 0), qvR 0, qvS 33], zh48, [(1, [1], []), (2, [1], [])]), symsL 33 0, some ((.ofNat 333161), [(33, (.negSucc 62))]), 0, 0)
noncomputable def c180_0_p44 : PE := (102, [1, 3, 0, 2, 4], (35, (zt118 [qtN 33 0 39, qtN 34 692 910]), [((.ofNat 1), [(19, (.negSucc 0)), (20, (.negSucc 0)), (21, (.negSucc 0)), (22, (.negSucc 0))])], [qvK (.ofNat 1), qvK (.ofNat 0), qvR 0, qvS 33, qvS 34], zh48, [(1, [1], []), (2, [1], [])]), symsL 33 0, some ((.ofNat 333161), [(33, (.negSucc 62))]), 0, 0)
noncomputable def c180_0_p45 : PE := (102, [1, 3, 0, 2, 4], (34, (zt118 [qtN 33 0 39]), [((.ofNat 1), [(19, (.negSucc 0)), (20, (.negSucc 0)), (21, (.negSucc 0)), (22, (.negSucc 0))])], [qvK (.ofNat 1), qvK (.ofNat 1), qvR 0, qvS 33, qvK (.ofNat 692)], zh48, [(1, [1], []), (2, [1], [])]), symsL 33 0, some ((.ofNat 333160), [(33, (.negSucc 62))]), 0, 0)
noncomputable def c180_0_p46 : PE := (102, [1, 3, 0, 2, 4], (34, (zt5 [qtN 10 2 4, qtN 11 0 60, qtN 12 2 8, qtN 13 0 6, qtN 14 0 8, qtN 15 0 60, qtN 16 0 60, qtN 17 0 10, qtA 18, qtN 19 0 1, qtN 20 1 1, qtN 21 0 1, qtN 22 0 1, qtN 33 0 39]), [((.ofNat 1), [(19, (.negSucc 0)), (20, (.negSucc 0)), (21, (.negSucc 0)), (22, (.negSucc 0))])], [qvK (.ofNat 1), qvK (.ofNat 2), qvR 0, qvS 33, qvK (.ofNat 695)], zh48, [(1, [1], []), (2, [1], [])]), symsL 33 0, some ((.ofNat 333159), [(33, (.negSucc 62))]), 0, 0)
noncomputable def c180_0_p47 : PE := (102, [1, 3, 0, 2, 4], (34, (zt5 [qtN 10 2 4, qtN 11 0 60, qtN 12 3 8, qtN 13 0 6, qtN 14 0 8, qtN 15 0 60, qtN 16 0 60, qtN 17 0 10, qtA 18, qtN 19 0 1, qtN 20 1 1, qtN 21 0 1, qtN 22 0 1, qtN 33 0 39]), [((.ofNat 1), [(19, (.negSucc 0)), (20, (.negSucc 0)), (21, (.negSucc 0)), (22, (.negSucc 0))])], [qvK (.ofNat 1), qvK (.ofNat 3), qvR 0, qvS 33, qvK (.ofNat 698)], zh48, [(1, [1], []), (2, [1], [])]), symsL 33 0, some ((.ofNat 333158), [(33, (.negSucc 62))]), 0, 0)
noncomputable def c180_0_p48 : PE := (102, [1, 3, 0, 2, 4], (34, (zt5 [qtN 10 2 4, qtN 11 0 60, qtN 12 4 8, qtN 13 0 6, qtN 14 0 8, qtN 15 0 60, qtN 16 0 60, qtN 17 0 10, qtA 18, qtN 19 0 1, qtN 20 1 1, qtN 21 0 1, qtN 22 0 1, qtN 33 0 39]), [((.ofNat 1), [(19, (.negSucc 0)), (20, (.negSucc 0)), (21, (.negSucc 0)), (22, (.negSucc 0))])], [qvK (.ofNat 1), qvK (.ofNat 4), qvR 0, qvS 33, qvK (.ofNat 701)], zh48, [(1, [1], []), (2, [1], [])]), symsL 33 0, some ((.ofNat 333157), [(33, (.negSucc 62))]), 0, 0)
noncomputable def c180_0_p49 : PE := (102, [1, 3, 0, 2, 4], (34, (zt5 [qtN 10 2 4, qtN 11 0 60, qtN 12 5 8, qtN 13 0 6, qtN 14 0 8, qtN 15 0 60, qtN 16 0 60, qtN 17 0 10, qtA 18, qtN 19 0 1, qtN 20 1 1, qtN 21 0 1, qtN 22 0 1, qtN 33 0 39]), [((.ofNat 1), [(19, (.negSucc 0)), (20, (.negSucc 0)), (21, (.negSucc 0)), (22, (.negSucc 0))])], [qvK (.ofNat 1), qvK (.ofNat 5), qvR 0, qvS 33, qvK (.ofNat 704)], zh48, [(1, [1], []), (2, [1], [])]), symsL 33 0, some ((.ofNat 333156), [(33, (.negSucc 62))]), 0, 0)
noncomputable def c180_0_p50 : PE := (102, [1, 3, 0, 2, 4], (34, (zt5 [qtN 10 2 4, qtN 11 0 60, qtN 12 6 8, qtN 13 0 6, qtN 14 0 8, qtN 15 0 60, qtN 16 0 60, qtN 17 0 10, qtA 18, qtN 19 0 1, qtN 20 1 1, qtN 21 0 1, qtN 22 0 1, qtN 33 0 39]), [((.ofNat 1), [(19, (.negSucc 0)), (20, (.negSucc 0)), (21, (.negSucc 0)), (22, (.negSucc 0))])], [qvK (.ofNat 1), qvK (.ofNat 6), qvR 0, qvS 33, qvK (.ofNat 707)], zh48, [(1, [1], []), (2, [1], [])]), symsL 33 0, some ((.ofNat 333155), [(33, (.negSucc 62))]), 0, 0)
noncomputable def c180_0_p51 : PE := (102, [1, 3, 0, 2, 4], (34, (zt5 [qtN 10 2 4, qtN 11 0 60, qtN 12 7 8, qtN 13 0 6, qtN 14 0 8, qtN 15 0 60, qtN 16 0 60, qtN 17 0 10, qtA 18, qtN 19 0 1, qtN 20 1 1, qtN 21 0 1, qtN 22 0 1, qtN 33 0 39]), [((.ofNat 1), [(19, (.negSucc 0)), (20, (.negSucc 0)), (21, (.negSucc 0)), (22, (.negSucc 0))])], [qvK (.ofNat 1), qvK (.ofNat 7), qvR 0, qvS 33, qvK (.ofNat 710)], zh48, [(1, [1], []), (2, [1], [])]), symsL 33 0, some ((.ofNat 333154), [(33, (.negSucc 62))]), 0, 0)
noncomputable def c180_0_p52 : PE := (102, [1, 3, 0, 2, 4], (34, (zt5 [qtN 10 2 4, qtN 11 0 60, qtN 12 8 8, qtN 13 0 6, qtN 14 0 8, qtN 15 0 60, qtN 16 0 60, qtN 17 0 10, qtA 18, qtN 19 0 1, qtN 20 1 1, qtN 21 0 1, qtN 22 0 1, qtN 33 0 39]), [((.ofNat 1), [(19, (.negSucc 0)), (20, (.negSucc 0)), (21, (.negSucc 0)), (22, (.negSucc 0))])], [qvK (.ofNat 1), qvK (.ofNat 8), qvR 0, qvS 33, qvK (.ofNat 713)], zh48, [(1, [1], []), (2, [1], [])]), symsL 33 0, some ((.ofNat 333153), [(33, (.negSucc 62))]), 0, 0)
noncomputable def c180_0_p53 : PE := (102, [1, 3, 0, 2], (34, (zt111 [qtN 19 0 1, qtN 20 0 1, qtN 21 1 1, qtN 22 0 1, qtN 33 0 39]), [((.ofNat 1), [(19, (.negSucc 0)), (20, (.negSucc 0)), (21, (.negSucc 0)), (22, (.negSucc 0))])], [qvK (.ofNat 2), qvK (.ofNat 0), qvR 0, qvS 33], zh48, [(1, [1], []), (2, [1], [])]), symsL 33 0, some ((.ofNat 315080), [(33, (.negSucc 62))]), 0, 0)
noncomputable def c180_0_p54 : PE := (102, [1, 3, 0, 2, 4], (35, (zt119 [qtN 33 0 39, qtN 34 692 910]), [((.ofNat 1), [(19, (.negSucc 0)), (20, (.negSucc 0)), (21, (.negSucc 0)), (22, (.negSucc 0))])], [qvK (.ofNat 2), qvK (.ofNat 0), qvR 0, qvS 33, qvS 34], zh48, [(1, [1], []), (2, [1], [])]), symsL 33 0, some ((.ofNat 315080), [(33, (.negSucc 62))]), 0, 0)
noncomputable def c180_0_p55 : PE := (102, [1, 3, 0, 2, 4], (34, (zt119 [qtN 33 0 39]), [((.ofNat 1), [(19, (.negSucc 0)), (20, (.negSucc 0)), (21, (.negSucc 0)), (22, (.negSucc 0))])], [qvK (.ofNat 2), qvK (.ofNat 1), qvR 0, qvS 33, qvK (.ofNat 692)], zh48, [(1, [1], []), (2, [1], [])]), symsL 33 0, some ((.ofNat 315079), [(33, (.negSucc 62))]), 0, 0)
noncomputable def c180_0_p56 : PE := (102, [1, 3, 0, 2, 4], (34, (zt5 [qtN 10 3 4, qtN 11 0 60, qtN 12 2 8, qtN 13 0 6, qtN 14 0 8, qtN 15 0 60, qtN 16 0 60, qtN 17 0 10, qtA 18, qtN 19 0 1, qtN 20 0 1, qtN 21 1 1, qtN 22 0 1, qtN 33 0 39]), [((.ofNat 1), [(19, (.negSucc 0)), (20, (.negSucc 0)), (21, (.negSucc 0)), (22, (.negSucc 0))])], [qvK (.ofNat 2), qvK (.ofNat 2), qvR 0, qvS 33, qvK (.ofNat 695)], zh48, [(1, [1], []), (2, [1], [])]), symsL 33 0, some ((.ofNat 315078), [(33, (.negSucc 62))]), 0, 0)
noncomputable def c180_0_p57 : PE := (102, [1, 3, 0, 2, 4], (34, (zt5 [qtN 10 3 4, qtN 11 0 60, qtN 12 3 8, qtN 13 0 6, qtN 14 0 8, qtN 15 0 60, qtN 16 0 60, qtN 17 0 10, qtA 18, qtN 19 0 1, qtN 20 0 1, qtN 21 1 1, qtN 22 0 1, qtN 33 0 39]), [((.ofNat 1), [(19, (.negSucc 0)), (20, (.negSucc 0)), (21, (.negSucc 0)), (22, (.negSucc 0))])], [qvK (.ofNat 2), qvK (.ofNat 3), qvR 0, qvS 33, qvK (.ofNat 698)], zh48, [(1, [1], []), (2, [1], [])]), symsL 33 0, some ((.ofNat 315077), [(33, (.negSucc 62))]), 0, 0)
noncomputable def c180_0_p58 : PE := (102, [1, 3, 0, 2, 4], (34, (zt5 [qtN 10 3 4, qtN 11 0 60, qtN 12 4 8, qtN 13 0 6, qtN 14 0 8, qtN 15 0 60, qtN 16 0 60, qtN 17 0 10, qtA 18, qtN 19 0 1, qtN 20 0 1, qtN 21 1 1, qtN 22 0 1, qtN 33 0 39]), [((.ofNat 1), [(19, (.negSucc 0)), (20, (.negSucc 0)), (21, (.negSucc 0)), (22, (.negSucc 0))])], [qvK (.ofNat 2), qvK (.ofNat 4), qvR 0, qvS 33, qvK (.ofNat 701)], zh48, [(1, [1], []), (2, [1], [])]), symsL 33 0, some ((.ofNat 315076), [(33, (.negSucc 62))]), 0, 0)
noncomputable def c180_0_p59 : PE := (102, [1, 3, 0, 2, 4], (34, (zt5 [qtN 10 3 4, qtN 11 0 60, qtN 12 5 8, qtN 13 0 6, qtN 14 0 8, qtN 15 0 60, qtN 16 0 60, qtN 17 0 10, qtA 18, qtN 19 0 1, qtN 20 0 1, qtN 21 1 1, qtN 22 0 1, qtN 33 0 39]), [((.ofNat 1), [(19, (.negSucc 0)), (20, (.negSucc 0)), (21, (.negSucc 0)), (22, (.negSucc 0))])], [qvK (.ofNat 2), qvK (.ofNat 5), qvR 0, qvS 33, qvK (.ofNat 704)], zh48, [(1, [1], []), (2, [1], [])]), symsL 33 0, some ((.ofNat 315075), [(33, (.negSucc 62))]), 0, 0)
noncomputable def c180_0_p60 : PE := (102, [1, 3, 0, 2, 4], (34, (zt5 [qtN 10 3 4, qtN 11 0 60, qtN 12 6 8, qtN 13 0 6, qtN 14 0 8, qtN 15 0 60, qtN 16 0 60, qtN 17 0 10, qtA 18, qtN 19 0 1, qtN 20 0 1, qtN 21 1 1, qtN 22 0 1, qtN 33 0 39]), [((.ofNat 1), [(19, (.negSucc 0)), (20, (.negSucc 0)), (21, (.negSucc 0)), (22, (.negSucc 0))])], [qvK (.ofNat 2), qvK (.ofNat 6), qvR 0, qvS 33, qvK (.ofNat 707)], zh48, [(1, [1], []), (2, [1], [])]), symsL 33 0, some ((.ofNat 315074), [(33, (.negSucc 62))]), 0, 0)
noncomputable def c180_0_p61 : PE := (102, [1, 3, 0, 2, 4], (34, (zt5 [qtN 10 3 4, qtN 11 0 60, qtN 12 7 8, qtN 13 0 6, qtN 14 0 8, qtN 15 0 60, qtN 16 0 60, qtN 17 0 10, qtA 18, qtN 19 0 1, qtN 20 0 1, qtN 21 1 1, qtN 22 0 1, qtN 33 0 39]), [((.ofNat 1), [(19, (.negSucc 0)), (20, (.negSucc 0)), (21, (.negSucc 0)), (22, (.negSucc 0))])], [qvK (.ofNat 2), qvK (.ofNat 7), qvR 0, qvS 33, qvK (.ofNat 710)], zh48, [(1, [1], []), (2, [1], [])]), symsL 33 0, some ((.ofNat 315073), [(33, (.negSucc 62))]), 0, 0)
noncomputable def c180_0_p62 : PE := (102, [1, 3, 0, 2, 4], (34, (zt5 [qtN 10 3 4, qtN 11 0 60, qtN 12 8 8, qtN 13 0 6, qtN 14 0 8, qtN 15 0 60, qtN 16 0 60, qtN 17 0 10, qtA 18, qtN 19 0 1, qtN 20 0 1, qtN 21 1 1, qtN 22 0 1, qtN 33 0 39]), [((.ofNat 1), [(19, (.negSucc 0)), (20, (.negSucc 0)), (21, (.negSucc 0)), (22, (.negSucc 0))])], [qvK (.ofNat 2), qvK (.ofNat 8), qvR 0, qvS 33, qvK (.ofNat 713)], zh48, [(1, [1], []), (2, [1], [])]), symsL 33 0, some ((.ofNat 315072), [(33, (.negSucc 62))]), 0, 0)
noncomputable def c180_0_p63 : PE := (102, [1, 3, 0, 2], (34, (zt116 [qtN 19 0 1, qtN 20 0 1, qtN 21 0 1, qtN 22 1 1, qtN 33 0 39]), [((.ofNat 1), [(19, (.negSucc 0)), (20, (.negSucc 0)), (21, (.negSucc 0)), (22, (.negSucc 0))])], [qvK (.ofNat 3), qvK (.ofNat 0), qvR 0, qvS 33], zh48, [(1, [1], []), (2, [1], [])]), symsL 33 0, some ((.ofNat 296999), [(33, (.negSucc 62))]), 0, 0)
noncomputable def c180_0_p64 : PE := (102, [1, 3, 0, 2, 4], (35, (zt120 [qtN 33 0 39, qtN 34 692 910]), [((.ofNat 1), [(19, (.negSucc 0)), (20, (.negSucc 0)), (21, (.negSucc 0)), (22, (.negSucc 0))])], [qvK (.ofNat 3), qvK (.ofNat 0), qvR 0, qvS 33, qvS 34], zh48, [(1, [1], []), (2, [1], [])]), symsL 33 0, some ((.ofNat 296999), [(33, (.negSucc 62))]), 0, 0)
noncomputable def c180_0_p65 : PE := (102, [1, 3, 0, 2, 4], (34, (zt120 [qtN 33 0 39]), [((.ofNat 1), [(19, (.negSucc 0)), (20, (.negSucc 0)), (21, (.negSucc 0)), (22, (.negSucc 0))])], [qvK (.ofNat 3), qvK (.ofNat 1), qvR 0, qvS 33, qvK (.ofNat 692)], zh48, [(1, [1], []), (2, [1], [])]), symsL 33 0, some ((.ofNat 296998), [(33, (.negSucc 62))]), 0, 0)
noncomputable def c180_0_p66 : PE := (102, [1, 3, 0, 2, 4], (34, (zt5 [qtN 10 4 4, qtN 11 0 60, qtN 12 2 8, qtN 13 0 6, qtN 14 0 8, qtN 15 0 60, qtN 16 0 60, qtN 17 0 10, qtA 18, qtN 19 0 1, qtN 20 0 1, qtN 21 0 1, qtN 22 1 1, qtN 33 0 39]), [((.ofNat 1), [(19, (.negSucc 0)), (20, (.negSucc 0)), (21, (.negSucc 0)), (22, (.negSucc 0))])], [qvK (.ofNat 3), qvK (.ofNat 2), qvR 0, qvS 33, qvK (.ofNat 695)], zh48, [(1, [1], []), (2, [1], [])]), symsL 33 0, some ((.ofNat 296997), [(33, (.negSucc 62))]), 0, 0)
noncomputable def c180_0_p67 : PE := (102, [1, 3, 0, 2, 4], (34, (zt5 [qtN 10 4 4, qtN 11 0 60, qtN 12 3 8, qtN 13 0 6, qtN 14 0 8, qtN 15 0 60, qtN 16 0 60, qtN 17 0 10, qtA 18, qtN 19 0 1, qtN 20 0 1, qtN 21 0 1, qtN 22 1 1, qtN 33 0 39]), [((.ofNat 1), [(19, (.negSucc 0)), (20, (.negSucc 0)), (21, (.negSucc 0)), (22, (.negSucc 0))])], [qvK (.ofNat 3), qvK (.ofNat 3), qvR 0, qvS 33, qvK (.ofNat 698)], zh48, [(1, [1], []), (2, [1], [])]), symsL 33 0, some ((.ofNat 296996), [(33, (.negSucc 62))]), 0, 0)
noncomputable def c180_0_p68 : PE := (102, [1, 3, 0, 2, 4], (34, (zt5 [qtN 10 4 4, qtN 11 0 60, qtN 12 4 8, qtN 13 0 6, qtN 14 0 8, qtN 15 0 60, qtN 16 0 60, qtN 17 0 10, qtA 18, qtN 19 0 1, qtN 20 0 1, qtN 21 0 1, qtN 22 1 1, qtN 33 0 39]), [((.ofNat 1), [(19, (.negSucc 0)), (20, (.negSucc 0)), (21, (.negSucc 0)), (22, (.negSucc 0))])], [qvK (.ofNat 3), qvK (.ofNat 4), qvR 0, qvS 33, qvK (.ofNat 701)], zh48, [(1, [1], []), (2, [1], [])]), symsL 33 0, some ((.ofNat 296995), [(33, (.negSucc 62))]), 0, 0)
noncomputable def c180_0_p69 : PE := (102, [1, 3, 0, 2, 4], (34, (zt5 [qtN 10 4 4, qtN 11 0 60, qtN 12 5 8, qtN 13 0 6, qtN 14 0 8, qtN 15 0 60, qtN 16 0 60, qtN 17 0 10, qtA 18, qtN 19 0 1, qtN 20 0 1, qtN 21 0 1, qtN 22 1 1, qtN 33 0 39]), [((.ofNat 1), [(19, (.negSucc 0)), (20, (.negSucc 0)), (21, (.negSucc 0)), (22, (.negSucc 0))])], [qvK (.ofNat 3), qvK (.ofNat 5), qvR 0, qvS 33, qvK (.ofNat 704)], zh48, [(1, [1], []), (2, [1], [])]), symsL 33 0, some ((.ofNat 296994), [(33, (.negSucc 62))]), 0, 0)
noncomputable def c180_0_p70 : PE := (102, [1, 3, 0, 2, 4], (34, (zt5 [qtN 10 4 4, qtN 11 0 60, qtN 12 6 8, qtN 13 0 6, qtN 14 0 8, qtN 15 0 60, qtN 16 0 60, qtN 17 0 10, qtA 18, qtN 19 0 1, qtN 20 0 1, qtN 21 0 1, qtN 22 1 1, qtN 33 0 39]), [((.ofNat 1), [(19, (.negSucc 0)), (20, (.negSucc 0)), (21, (.negSucc 0)), (22, (.negSucc 0))])], [qvK (.ofNat 3), qvK (.ofNat 6), qvR 0, qvS 33, qvK (.ofNat 707)], zh48, [(1, [1], []), (2, [1], [])]), symsL 33 0, some ((.ofNat 296993), [(33, (.negSucc 62))]), 0, 0)
noncomputable def c180_0_p71 : PE := (102, [1, 3, 0, 2, 4], (34, (zt5 [qtN 10 4 4, qtN 11 0 60, qtN 12 7 8, qtN 13 0 6, qtN 14 0 8, qtN 15 0 60, qtN 16 0 60, qtN 17 0 10, qtA 18, qtN 19 0 1, qtN 20 0 1, qtN 21 0 1, qtN 22 1 1, qtN 33 0 39]), [((.ofNat 1), [(19, (.negSucc 0)), (20, (.negSucc 0)), (21, (.negSucc 0)), (22, (.negSucc 0))])], [qvK (.ofNat 3), qvK (.ofNat 7), qvR 0, qvS 33, qvK (.ofNat 710)], zh48, [(1, [1], []), (2, [1], [])]), symsL 33 0, some ((.ofNat 296992), [(33, (.negSucc 62))]), 0, 0)
noncomputable def c180_0_p72 : PE := (102, [1, 3, 0, 2, 4], (34, (zt5 [qtN 10 4 4, qtN 11 0 60, qtN 12 8 8, qtN 13 0 6, qtN 14 0 8, qtN 15 0 60, qtN 16 0 60, qtN 17 0 10, qtA 18, qtN 19 0 1, qtN 20 0 1, qtN 21 0 1, qtN 22 1 1, qtN 33 0 39]), [((.ofNat 1), [(19, (.negSucc 0)), (20, (.negSucc 0)), (21, (.negSucc 0)), (22, (.negSucc 0))])], [qvK (.ofNat 3), qvK (.ofNat 8), qvR 0, qvS 33, qvK (.ofNat 713)], zh48, [(1, [1], []), (2, [1], [])]), symsL 33 0, some ((.ofNat 296991), [(33, (.negSucc 62))]), 0, 0)
noncomputable def c180_0_pts : List PE := [c180_0_p0, c180_0_p1, c180_0_p2, c180_0_p3, c180_0_p4, c180_0_p5, c180_0_p6, c180_0_p7, c180_0_p8, c180_0_p9, c180_0_p10, c180_0_p11, c180_0_p12, c180_0_p13, c180_0_p14, c180_0_p15, c180_0_p16, c180_0_p17, c180_0_p18, c180_0_p19, c180_0_p20, c180_0_p21, c180_0_p22, c180_0_p23, c180_0_p24, c180_0_p25, c180_0_p26, c180_0_p27, c180_0_p28, c180_0_p29, c180_0_p30, c180_0_p31, c180_0_p32, c180_0_p33, c180_0_p34, c180_0_p35, c180_0_p36, c180_0_p37, c180_0_p38, c180_0_p39, c180_0_p40, c180_0_p41, c180_0_p42, c180_0_p43, c180_0_p44, c180_0_p45, c180_0_p46, c180_0_p47, c180_0_p48, c180_0_p49, c180_0_p50, c180_0_p51, c180_0_p52, c180_0_p53, c180_0_p54, c180_0_p55, c180_0_p56, c180_0_p57, c180_0_p58, c180_0_p59, c180_0_p60, c180_0_p61, c180_0_p62, c180_0_p63, c180_0_p64, c180_0_p65, c180_0_p66, c180_0_p67, c180_0_p68, c180_0_p69, c180_0_p70, c180_0_p71, c180_0_p72]
set_option maxRecDepth 100000 in
theorem c180_0_k : enCtF c180_0 c180_0_e (pkP (c180_0_pts ++ []) [0]) (none) (noF, noM, 5070612074680657764455033209856, 0, 33) 3000 = true := by decide +kernel
set_option maxRecDepth 100000 in
theorem c180_0_k0 : ptCtF c180_0 c180_0_e (pkP (c180_0_pts ++ []) [5]) (noF, noM, 5070612074680657764455033209856, 0, 33) 3000 c180_0_p0 = true := by decide +kernel
set_option maxRecDepth 100000 in
theorem c180_0_k1 : ptCtF c180_0 c180_0_e (pkP (c180_0_pts ++ []) [6]) (noF, noM, 5070612074680657764455033209856, 0, 33) 3000 c180_0_p1 = true := by decide +kernel
set_option maxRecDepth 100000 in
theorem c180_0_k2 : ptCtF c180_0 c180_0_e (pkP (c180_0_pts ++ []) [7]) (noF, noM, 5070612074680657764455033209856, 0, 33) 3000 c180_0_p2 = true := by decide +kernel
set_option maxRecDepth 100000 in
theorem c180_0_k3 : ptCtF c180_0 c180_0_e (pkP (c180_0_pts ++ []) [8]) (noF, noM, 5070612074680657764455033209856, 0, 33) 3000 c180_0_p3 = true := by decide +kernel
set_option maxRecDepth 100000 in
theorem c180_0_k4 : ptCtF c180_0 c180_0_e (pkP (c180_0_pts ++ []) [9]) (noF, noM, 5070612074680657764455033209856, 0, 33) 3000 c180_0_p4 = true := by decide +kernel
set_option maxRecDepth 100000 in
theorem c180_0_k5 : ptCtF c180_0 c180_0_e (pkP (c180_0_pts ++ []) [1, 5]) (noF, noM, 5070612074680657764455033209856, 0, 33) 3000 c180_0_p5 = true := by decide +kernel
set_option maxRecDepth 100000 in
theorem c180_0_k6 : ptCtF c180_0 c180_0_e (pkP (c180_0_pts ++ []) [2, 6]) (noF, noM, 5070612074680657764455033209856, 0, 33) 3000 c180_0_p6 = true := by decide +kernel
set_option maxRecDepth 100000 in
theorem c180_0_k7 : ptCtF c180_0 c180_0_e (pkP (c180_0_pts ++ []) [3, 7]) (noF, noM, 5070612074680657764455033209856, 0, 33) 3000 c180_0_p7 = true := by decide +kernel
set_option maxRecDepth 100000 in
theorem c180_0_k8 : ptCtF c180_0 c180_0_e (pkP (c180_0_pts ++ []) [4, 8]) (noF, noM, 5070612074680657764455033209856, 0, 33) 3000 c180_0_p8 = true := by decide +kernel
set_option maxRecDepth 100000 in
theorem c180_0_k9 : ptCtF c180_0 c180_0_e (pkP (c180_0_pts ++ []) [21]) (noF, noM, 5070612074680657764455033209856, 0, 33) 3000 c180_0_p9 = true := by decide +kernel
set_option maxRecDepth 100000 in
theorem c180_0_k10 : ptCtF c180_0 c180_0_e (pkP (c180_0_pts ++ []) [24]) (noF, noM, 5070612074680657764455033209856, 0, 33) 3000 c180_0_p10 = true := by decide +kernel
set_option maxRecDepth 100000 in
theorem c180_0_k11 : ptCtF c180_0 c180_0_e (pkP (c180_0_pts ++ []) [25]) (noF, noM, 5070612074680657764455033209856, 0, 33) 3000 c180_0_p11 = true := by decide +kernel
set_option maxRecDepth 100000 in
theorem c180_0_k12 : ptCtF c180_0 c180_0_e (pkP (c180_0_pts ++ []) [26]) (noF, noM, 5070612074680657764455033209856, 0, 33) 3000 c180_0_p12 = true := by decide +kernel
set_option maxRecDepth 100000 in
theorem c180_0_k13 : ptCtF c180_0 c180_0_e (pkP (c180_0_pts ++ []) [27]) (noF, noM, 5070612074680657764455033209856, 0, 33) 3000 c180_0_p13 = true := by decide +kernel
set_option maxRecDepth 100000 in
theorem c180_0_k14 : ptCtF c180_0 c180_0_e (pkP (c180_0_pts ++ []) [28]) (noF, noM, 5070612074680657764455033209856, 0, 33) 3000 c180_0_p14 = true := by decide +kernel
set_option maxRecDepth 100000 in
theorem c180_0_k15 : ptCtF c180_0 c180_0_e (pkP (c180_0_pts ++ []) [29]) (noF, noM, 5070612074680657764455033209856, 0, 33) 3000 c180_0_p15 = true := by decide +kernel
set_option maxRecDepth 100000 in
theorem c180_0_k16 : ptCtF c180_0 c180_0_e (pkP (c180_0_pts ++ []) [30]) (noF, noM, 5070612074680657764455033209856, 0, 33) 3000 c180_0_p16 = true := by decide +kernel
set_option maxRecDepth 100000 in
theorem c180_0_k17 : ptCtF c180_0 c180_0_e (pkP (c180_0_pts ++ []) [31]) (noF, noM, 5070612074680657764455033209856, 0, 33) 3000 c180_0_p17 = true := by decide +kernel
set_option maxRecDepth 100000 in
theorem c180_0_k18 : ptCtF c180_0 c180_0_e (pkP (c180_0_pts ++ []) [32]) (noF, noM, 5070612074680657764455033209856, 0, 33) 3000 c180_0_p18 = true := by decide +kernel
set_option maxRecDepth 100000 in
theorem c180_0_k19 : ptCtF c180_0 c180_0_e (pkP (c180_0_pts ++ []) []) (noF, noM, 5070612074680657764455033209856, 0, 33) 3000 c180_0_p19 = true := by decide +kernel
set_option maxRecDepth 100000 in
theorem c180_0_k20 : ptCtF c180_0 c180_0_e (pkP (c180_0_pts ++ []) []) (noF, noM, 5070612074680657764455033209856, 0, 33) 3000 c180_0_p20 = true := by decide +kernel
set_option maxRecDepth 100000 in
theorem c180_0_k21 : ptCtF c180_0 c180_0_e (pkP (c180_0_pts ++ []) [10, 33]) (noF, noM, 5070612074680657764455033209856, 0, 33) 3000 c180_0_p21 = true := by decide +kernel
set_option maxRecDepth 100000 in
theorem c180_0_k22 : ptCtF c180_0 c180_0_e (pkP (c180_0_pts ++ []) [11, 33]) (noF, noM, 5070612074680657764455033209856, 0, 33) 3000 c180_0_p22 = true := by decide +kernel
set_option maxRecDepth 100000 in
theorem c180_0_k23 : ptCtF c180_0 c180_0_e (pkP (c180_0_pts ++ []) [12, 34]) (noF, noM, 5070612074680657764455033209856, 0, 33) 3000 c180_0_p23 = true := by decide +kernel
set_option maxRecDepth 100000 in
theorem c180_0_k24 : ptCtF c180_0 c180_0_e (pkP (c180_0_pts ++ []) [13, 43]) (noF, noM, 5070612074680657764455033209856, 0, 33) 3000 c180_0_p24 = true := by decide +kernel
set_option maxRecDepth 100000 in
theorem c180_0_k25 : ptCtF c180_0 c180_0_e (pkP (c180_0_pts ++ []) [14, 43]) (noF, noM, 5070612074680657764455033209856, 0, 33) 3000 c180_0_p25 = true := by decide +kernel
set_option maxRecDepth 100000 in
theorem c180_0_k26 : ptCtF c180_0 c180_0_e (pkP (c180_0_pts ++ []) [15, 44]) (noF, noM, 5070612074680657764455033209856, 0, 33) 3000 c180_0_p26 = true := by decide +kernel
set_option maxRecDepth 100000 in
theorem c180_0_k27 : ptCtF c180_0 c180_0_e (pkP (c180_0_pts ++ []) [16, 53]) (noF, noM, 5070612074680657764455033209856, 0, 33) 3000 c180_0_p27 = true := by decide +kernel
set_option maxRecDepth 100000 in
theorem c180_0_k28 : ptCtF c180_0 c180_0_e (pkP (c180_0_pts ++ []) [17, 53]) (noF, noM, 5070612074680657764455033209856, 0, 33) 3000 c180_0_p28 = true := by decide +kernel
set_option maxRecDepth 100000 in
theorem c180_0_k29 : ptCtF c180_0 c180_0_e (pkP (c180_0_pts ++ []) [18, 54]) (noF, noM, 5070612074680657764455033209856, 0, 33) 3000 c180_0_p29 = true := by decide +kernel
set_option maxRecDepth 100000 in
theorem c180_0_k30 : ptCtF c180_0 c180_0_e (pkP (c180_0_pts ++ []) [63]) (noF, noM, 5070612074680657764455033209856, 0, 33) 3000 c180_0_p30 = true := by decide +kernel
set_option maxRecDepth 100000 in
theorem c180_0_k31 : ptCtF c180_0 c180_0_e (pkP (c180_0_pts ++ []) [19, 63]) (noF, noM, 5070612074680657764455033209856, 0, 33) 3000 c180_0_p31 = true := by decide +kernel
set_option maxRecDepth 100000 in
theorem c180_0_k32 : ptCtF c180_0 c180_0_e (pkP (c180_0_pts ++ []) [20, 64]) (noF, noM, 5070612074680657764455033209856, 0, 33) 3000 c180_0_p32 = true := by decide +kernel
set_option maxRecDepth 100000 in
theorem c180_0_k33 : ptCtF c180_0 c180_0_e (pkP (c180_0_pts ++ []) [22, 35]) (noF, noM, 5070612074680657764455033209856, 0, 33) 3000 c180_0_p33 = true := by decide +kernel
set_option maxRecDepth 100000 in
theorem c180_0_k34 : ptCtF c180_0 c180_0_e (pkP (c180_0_pts ++ []) [35]) (noF, noM, 5070612074680657764455033209856, 0, 33) 3000 c180_0_p34 = true := by decide +kernel
set_option maxRecDepth 100000 in
theorem c180_0_k35 : ptCtF c180_0 c180_0_e (pkP (c180_0_pts ++ []) [23, 36]) (noF, noM, 5070612074680657764455033209856, 0, 33) 3000 c180_0_p35 = true := by decide +kernel
set_option maxRecDepth 100000 in
theorem c180_0_k36 : ptCtF c180_0 c180_0_e (pkP (c180_0_pts ++ []) [23, 37]) (noF, noM, 5070612074680657764455033209856, 0, 33) 3000 c180_0_p36 = true := by decide +kernel
set_option maxRecDepth 100000 in
theorem c180_0_k37 : ptCtF c180_0 c180_0_e (pkP (c180_0_pts ++ []) [23, 38]) (noF, noM, 5070612074680657764455033209856, 0, 33) 3000 c180_0_p37 = true := by decide +kernel
set_option maxRecDepth 100000 in
theorem c180_0_k38 : ptCtF c180_0 c180_0_e (pkP (c180_0_pts ++ []) [23, 39]) (noF, noM, 5070612074680657764455033209856, 0, 33) 3000 c180_0_p38 = true := by decide +kernel
set_option maxRecDepth 100000 in
theorem c180_0_k39 : ptCtF c180_0 c180_0_e (pkP (c180_0_pts ++ []) [23, 40]) (noF, noM, 5070612074680657764455033209856, 0, 33) 3000 c180_0_p39 = true := by decide +kernel
set_option maxRecDepth 100000 in
theorem c180_0_k40 : ptCtF c180_0 c180_0_e (pkP (c180_0_pts ++ []) [23, 41]) (noF, noM, 5070612074680657764455033209856, 0, 33) 3000 c180_0_p40 = true := by decide +kernel
set_option maxRecDepth 100000 in
theorem c180_0_k41 : ptCtF c180_0 c180_0_e (pkP (c180_0_pts ++ []) [23, 42]) (noF, noM, 5070612074680657764455033209856, 0, 33) 3000 c180_0_p41 = true := by decide +kernel
set_option maxRecDepth 100000 in
theorem c180_0_k42 : ptCtF c180_0 c180_0_e (pkP (c180_0_pts ++ []) [23]) (noF, noM, 5070612074680657764455033209856, 0, 33) 3000 c180_0_p42 = true := by decide +kernel
set_option maxRecDepth 100000 in
theorem c180_0_k43 : ptCtF c180_0 c180_0_e (pkP (c180_0_pts ++ []) [25, 45]) (noF, noM, 5070612074680657764455033209856, 0, 33) 3000 c180_0_p43 = true := by decide +kernel
set_option maxRecDepth 100000 in
theorem c180_0_k44 : ptCtF c180_0 c180_0_e (pkP (c180_0_pts ++ []) [45]) (noF, noM, 5070612074680657764455033209856, 0, 33) 3000 c180_0_p44 = true := by decide +kernel
set_option maxRecDepth 100000 in
theorem c180_0_k45 : ptCtF c180_0 c180_0_e (pkP (c180_0_pts ++ []) [26, 46]) (noF, noM, 5070612074680657764455033209856, 0, 33) 3000 c180_0_p45 = true := by decide +kernel
set_option maxRecDepth 100000 in
theorem c180_0_k46 : ptCtF c180_0 c180_0_e (pkP (c180_0_pts ++ []) [26, 47]) (noF, noM, 5070612074680657764455033209856, 0, 33) 3000 c180_0_p46 = true := by decide +kernel
set_option maxRecDepth 100000 in
theorem c180_0_k47 : ptCtF c180_0 c180_0_e (pkP (c180_0_pts ++ []) [26, 48]) (noF, noM, 5070612074680657764455033209856, 0, 33) 3000 c180_0_p47 = true := by decide +kernel
set_option maxRecDepth 100000 in
theorem c180_0_k48 : ptCtF c180_0 c180_0_e (pkP (c180_0_pts ++ []) [26, 49]) (noF, noM, 5070612074680657764455033209856, 0, 33) 3000 c180_0_p48 = true := by decide +kernel
set_option maxRecDepth 100000 in
theorem c180_0_k49 : ptCtF c180_0 c180_0_e (pkP (c180_0_pts ++ []) [26, 50]) (noF, noM, 5070612074680657764455033209856, 0, 33) 3000 c180_0_p49 = true := by decide +kernel
set_option maxRecDepth 100000 in
theorem c180_0_k50 : ptCtF c180_0 c180_0_e (pkP (c180_0_pts ++ []) [26, 51]) (noF, noM, 5070612074680657764455033209856, 0, 33) 3000 c180_0_p50 = true := by decide +kernel
set_option maxRecDepth 100000 in
theorem c180_0_k51 : ptCtF c180_0 c180_0_e (pkP (c180_0_pts ++ []) [26, 52]) (noF, noM, 5070612074680657764455033209856, 0, 33) 3000 c180_0_p51 = true := by decide +kernel
set_option maxRecDepth 100000 in
theorem c180_0_k52 : ptCtF c180_0 c180_0_e (pkP (c180_0_pts ++ []) [26]) (noF, noM, 5070612074680657764455033209856, 0, 33) 3000 c180_0_p52 = true := by decide +kernel
set_option maxRecDepth 100000 in
theorem c180_0_k53 : ptCtF c180_0 c180_0_e (pkP (c180_0_pts ++ []) [28, 55]) (noF, noM, 5070612074680657764455033209856, 0, 33) 3000 c180_0_p53 = true := by decide +kernel
set_option maxRecDepth 100000 in
theorem c180_0_k54 : ptCtF c180_0 c180_0_e (pkP (c180_0_pts ++ []) [55]) (noF, noM, 5070612074680657764455033209856, 0, 33) 3000 c180_0_p54 = true := by decide +kernel
set_option maxRecDepth 100000 in
theorem c180_0_k55 : ptCtF c180_0 c180_0_e (pkP (c180_0_pts ++ []) [29, 56]) (noF, noM, 5070612074680657764455033209856, 0, 33) 3000 c180_0_p55 = true := by decide +kernel
set_option maxRecDepth 100000 in
theorem c180_0_k56 : ptCtF c180_0 c180_0_e (pkP (c180_0_pts ++ []) [29, 57]) (noF, noM, 5070612074680657764455033209856, 0, 33) 3000 c180_0_p56 = true := by decide +kernel
set_option maxRecDepth 100000 in
theorem c180_0_k57 : ptCtF c180_0 c180_0_e (pkP (c180_0_pts ++ []) [29, 58]) (noF, noM, 5070612074680657764455033209856, 0, 33) 3000 c180_0_p57 = true := by decide +kernel
set_option maxRecDepth 100000 in
theorem c180_0_k58 : ptCtF c180_0 c180_0_e (pkP (c180_0_pts ++ []) [29, 59]) (noF, noM, 5070612074680657764455033209856, 0, 33) 3000 c180_0_p58 = true := by decide +kernel
set_option maxRecDepth 100000 in
theorem c180_0_k59 : ptCtF c180_0 c180_0_e (pkP (c180_0_pts ++ []) [29, 60]) (noF, noM, 5070612074680657764455033209856, 0, 33) 3000 c180_0_p59 = true := by decide +kernel
set_option maxRecDepth 100000 in
theorem c180_0_k60 : ptCtF c180_0 c180_0_e (pkP (c180_0_pts ++ []) [29, 61]) (noF, noM, 5070612074680657764455033209856, 0, 33) 3000 c180_0_p60 = true := by decide +kernel
set_option maxRecDepth 100000 in
theorem c180_0_k61 : ptCtF c180_0 c180_0_e (pkP (c180_0_pts ++ []) [29, 62]) (noF, noM, 5070612074680657764455033209856, 0, 33) 3000 c180_0_p61 = true := by decide +kernel
set_option maxRecDepth 100000 in
theorem c180_0_k62 : ptCtF c180_0 c180_0_e (pkP (c180_0_pts ++ []) [29]) (noF, noM, 5070612074680657764455033209856, 0, 33) 3000 c180_0_p62 = true := by decide +kernel
set_option maxRecDepth 100000 in
theorem c180_0_k63 : ptCtF c180_0 c180_0_e (pkP (c180_0_pts ++ []) [31, 65]) (noF, noM, 5070612074680657764455033209856, 0, 33) 3000 c180_0_p63 = true := by decide +kernel
set_option maxRecDepth 100000 in
theorem c180_0_k64 : ptCtF c180_0 c180_0_e (pkP (c180_0_pts ++ []) [65]) (noF, noM, 5070612074680657764455033209856, 0, 33) 3000 c180_0_p64 = true := by decide +kernel
set_option maxRecDepth 100000 in
theorem c180_0_k65 : ptCtF c180_0 c180_0_e (pkP (c180_0_pts ++ []) [32, 66]) (noF, noM, 5070612074680657764455033209856, 0, 33) 3000 c180_0_p65 = true := by decide +kernel
set_option maxRecDepth 100000 in
theorem c180_0_k66 : ptCtF c180_0 c180_0_e (pkP (c180_0_pts ++ []) [32, 67]) (noF, noM, 5070612074680657764455033209856, 0, 33) 3000 c180_0_p66 = true := by decide +kernel
set_option maxRecDepth 100000 in
theorem c180_0_k67 : ptCtF c180_0 c180_0_e (pkP (c180_0_pts ++ []) [32, 68]) (noF, noM, 5070612074680657764455033209856, 0, 33) 3000 c180_0_p67 = true := by decide +kernel
set_option maxRecDepth 100000 in
theorem c180_0_k68 : ptCtF c180_0 c180_0_e (pkP (c180_0_pts ++ []) [32, 69]) (noF, noM, 5070612074680657764455033209856, 0, 33) 3000 c180_0_p68 = true := by decide +kernel
set_option maxRecDepth 100000 in
theorem c180_0_k69 : ptCtF c180_0 c180_0_e (pkP (c180_0_pts ++ []) [32, 70]) (noF, noM, 5070612074680657764455033209856, 0, 33) 3000 c180_0_p69 = true := by decide +kernel
set_option maxRecDepth 100000 in
theorem c180_0_k70 : ptCtF c180_0 c180_0_e (pkP (c180_0_pts ++ []) [32, 71]) (noF, noM, 5070612074680657764455033209856, 0, 33) 3000 c180_0_p70 = true := by decide +kernel
set_option maxRecDepth 100000 in
theorem c180_0_k71 : ptCtF c180_0 c180_0_e (pkP (c180_0_pts ++ []) [32, 72]) (noF, noM, 5070612074680657764455033209856, 0, 33) 3000 c180_0_p71 = true := by decide +kernel
set_option maxRecDepth 100000 in
theorem c180_0_k72 : ptCtF c180_0 c180_0_e (pkP (c180_0_pts ++ []) [32]) (noF, noM, 5070612074680657764455033209856, 0, 33) 3000 c180_0_p72 = true := by decide +kernel
set_option maxRecDepth 100000 in
theorem c180_0_v : ValidC PPk c180_0 := ct_ok fpk ⟨noF_ok, noM_ok⟩ (d := 3) (ext := []) (pts := c180_0_pts) (env := c180_0_e) rfl (List.forall_mem_cons.mpr ⟨⟨c175_0_v, Nat.le_of_ble_eq_true rfl⟩, List.forall_mem_cons.mpr ⟨⟨c175_1_v, Nat.le_of_ble_eq_true rfl⟩, List.forall_mem_cons.mpr ⟨⟨c175_2_v, Nat.le_of_ble_eq_true rfl⟩, List.forall_mem_cons.mpr ⟨⟨c175_3_v, Nat.le_of_ble_eq_true rfl⟩, List.forall_mem_cons.mpr ⟨⟨c175_4_v, Nat.le_of_ble_eq_true rfl⟩, List.forall_mem_cons.mpr ⟨⟨c175_5_v, Nat.le_of_ble_eq_true rfl⟩, List.forall_mem_cons.mpr ⟨⟨c175_6_v, Nat.le_of_ble_eq_true rfl⟩, List.forall_mem_cons.mpr ⟨⟨c175_7_v, Nat.le_of_ble_eq_true rfl⟩, List.forall_mem_cons.mpr ⟨⟨c181_0_v, Nat.le_of_ble_eq_true rfl⟩, List.forall_mem_cons.mpr ⟨⟨c181_1_v, Nat.le_of_ble_eq_true rfl⟩, List.forall_mem_cons.mpr ⟨⟨c181_2_v, Nat.le_of_ble_eq_true rfl⟩, List.forall_mem_cons.mpr ⟨⟨c181_3_v, Nat.le_of_ble_eq_true rfl⟩, fun _ h => (by cases h)⟩⟩⟩⟩⟩⟩⟩⟩⟩⟩⟩⟩) ext_nil (fun q h => (by cases h)) (enF c180_0_k) (List.forall_mem_cons.mpr ⟨⟨_, ptF c180_0_k0⟩, List.forall_mem_cons.mpr ⟨⟨_, ptF c180_0_k1⟩, List.forall_mem_cons.mpr ⟨⟨_, ptF c180_0_k2⟩, List.forall_mem_cons.mpr ⟨⟨_, ptF c180_0_k3⟩, List.forall_mem_cons.mpr ⟨⟨_, ptF c180_0_k4⟩, List.forall_mem_cons.mpr ⟨⟨_, ptF c180_0_k5⟩, List.forall_mem_cons.mpr ⟨⟨_, ptF c180_0_k6⟩, List.forall_mem_cons.mpr ⟨⟨_, ptF c180_0_k7⟩, List.forall_mem_cons.mpr ⟨⟨_, ptF c180_0_k8⟩, List.forall_mem_cons.mpr ⟨⟨_, ptF c180_0_k9⟩, List.forall_mem_cons.mpr ⟨⟨_, ptF c180_0_k10⟩, List.forall_mem_cons.mpr ⟨⟨_, ptF c180_0_k11⟩, List.forall_mem_cons.mpr ⟨⟨_, ptF c180_0_k12⟩, List.forall_mem_cons.mpr ⟨⟨_, ptF c180_0_k13⟩, List.forall_mem_cons.mpr ⟨⟨_, ptF c180_0_k14⟩, List.forall_mem_cons.mpr ⟨⟨_, ptF c180_0_k15⟩, List.forall_mem_cons.mpr ⟨⟨_, ptF c180_0_k16⟩, List.forall_mem_cons.mpr ⟨⟨_, ptF c180_0_k17⟩, List.forall_mem_cons.mpr ⟨⟨_, ptF c180_0_k18⟩, List.forall_mem_cons.mpr ⟨⟨_, ptF c180_0_k19⟩, List.forall_mem_cons.mpr ⟨⟨_, ptF c180_0_k20⟩, List.forall_mem_cons.mpr ⟨⟨_, ptF c180_0_k21⟩, List.forall_mem_cons.mpr ⟨⟨_, ptF c180_0_k22⟩, List.forall_mem_cons.mpr ⟨⟨_, ptF c180_0_k23⟩, List.forall_mem_cons.mpr ⟨⟨_, ptF c180_0_k24⟩, List.forall_mem_cons.mpr ⟨⟨_, ptF c180_0_k25⟩, List.forall_mem_cons.mpr ⟨⟨_, ptF c180_0_k26⟩, List.forall_mem_cons.mpr ⟨⟨_, ptF c180_0_k27⟩, List.forall_mem_cons.mpr ⟨⟨_, ptF c180_0_k28⟩, List.forall_mem_cons.mpr ⟨⟨_, ptF c180_0_k29⟩, List.forall_mem_cons.mpr ⟨⟨_, ptF c180_0_k30⟩, List.forall_mem_cons.mpr ⟨⟨_, ptF c180_0_k31⟩, List.forall_mem_cons.mpr ⟨⟨_, ptF c180_0_k32⟩, List.forall_mem_cons.mpr ⟨⟨_, ptF c180_0_k33⟩, List.forall_mem_cons.mpr ⟨⟨_, ptF c180_0_k34⟩, List.forall_mem_cons.mpr ⟨⟨_, ptF c180_0_k35⟩, List.forall_mem_cons.mpr ⟨⟨_, ptF c180_0_k36⟩, List.forall_mem_cons.mpr ⟨⟨_, ptF c180_0_k37⟩, List.forall_mem_cons.mpr ⟨⟨_, ptF c180_0_k38⟩, List.forall_mem_cons.mpr ⟨⟨_, ptF c180_0_k39⟩, List.forall_mem_cons.mpr ⟨⟨_, ptF c180_0_k40⟩, List.forall_mem_cons.mpr ⟨⟨_, ptF c180_0_k41⟩, List.forall_mem_cons.mpr ⟨⟨_, ptF c180_0_k42⟩, List.forall_mem_cons.mpr ⟨⟨_, ptF c180_0_k43⟩, List.forall_mem_cons.mpr ⟨⟨_, ptF c180_0_k44⟩, List.forall_mem_cons.mpr ⟨⟨_, ptF c180_0_k45⟩, List.forall_mem_cons.mpr ⟨⟨_, ptF c180_0_k46⟩, List.forall_mem_cons.mpr ⟨⟨_, ptF c180_0_k47⟩, List.forall_mem_cons.mpr ⟨⟨_, ptF c180_0_k48⟩, List.forall_mem_cons.mpr ⟨⟨_, ptF c180_0_k49⟩, List.forall_mem_cons.mpr ⟨⟨_, ptF c180_0_k50⟩, List.forall_mem_cons.mpr ⟨⟨_, ptF c180_0_k51⟩, List.forall_mem_cons.mpr ⟨⟨_, ptF c180_0_k52⟩, List.forall_mem_cons.mpr ⟨⟨_, ptF c180_0_k53⟩, List.forall_mem_cons.mpr ⟨⟨_, ptF c180_0_k54⟩, List.forall_mem_cons.mpr ⟨⟨_, ptF c180_0_k55⟩, List.forall_mem_cons.mpr ⟨⟨_, ptF c180_0_k56⟩, List.forall_mem_cons.mpr ⟨⟨_, ptF c180_0_k57⟩, List.forall_mem_cons.mpr ⟨⟨_, ptF c180_0_k58⟩, List.forall_mem_cons.mpr ⟨⟨_, ptF c180_0_k59⟩, List.forall_mem_cons.mpr ⟨⟨_, ptF c180_0_k60⟩, List.forall_mem_cons.mpr ⟨⟨_, ptF c180_0_k61⟩, List.forall_mem_cons.mpr ⟨⟨_, ptF c180_0_k62⟩, List.forall_mem_cons.mpr ⟨⟨_, ptF c180_0_k63⟩, List.forall_mem_cons.mpr ⟨⟨_, ptF c180_0_k64⟩, List.forall_mem_cons.mpr ⟨⟨_, ptF c180_0_k65⟩, List.forall_mem_cons.mpr ⟨⟨_, ptF c180_0_k66⟩, List.forall_mem_cons.mpr ⟨⟨_, ptF c180_0_k67⟩, List.forall_mem_cons.mpr ⟨⟨_, ptF c180_0_k68⟩, List.forall_mem_cons.mpr ⟨⟨_, ptF c180_0_k69⟩, List.forall_mem_cons.mpr ⟨⟨_, ptF c180_0_k70⟩, List.forall_mem_cons.mpr ⟨⟨_, ptF c180_0_k71⟩, List.forall_mem_cons.mpr ⟨⟨_, ptF c180_0_k72⟩, fun _ h => (by cases h)⟩⟩⟩⟩⟩⟩⟩⟩⟩⟩⟩⟩⟩⟩⟩⟩⟩⟩⟩⟩⟩⟩⟩⟩⟩⟩⟩⟩⟩⟩⟩⟩⟩⟩⟩⟩⟩⟩⟩⟩⟩⟩⟩⟩⟩⟩⟩⟩⟩⟩⟩⟩⟩⟩⟩⟩⟩⟩⟩⟩⟩⟩⟩⟩⟩⟩⟩⟩⟩⟩⟩⟩⟩)

noncomputable def c175_8 : Ct := (175, 1, (34, (zt2 [qtN 33 0 4]), [((.ofNat 1), [(19, (.negSucc 0)), (20, (.negSucc 0)), (21, (.negSucc 0)), (22, (.negSucc 0))])], [qvR 0, qvS 33, qvK (.ofNat 12)], zh48, [(1, [1], []), (2, [1], [])]),
  [((35, [qtA 34], [], [qvS 34], zh48, [(1, [1], []), (2, [1], [])]), 0, 0)])
noncomputable def c175_8_e : List Ct := []
noncomputable def c175_8_pts : List PE := []
set_option maxRecDepth 100000 in
theorem c175_8_k : enCtF c175_8 c175_8_e (pkP (c175_8_pts ++ []) []) (none) noH 3000 = true := by decide +kernel
set_option maxRecDepth 100000 in
theorem c175_8_v : ValidC PPk c175_8 := ct_ok fpk noH_ok (d := 0) (ext := []) (pts := c175_8_pts) (env := c175_8_e) rfl (fun _ h => (by cases h)) ext_nil (fun q h => (by cases h)) (enF c175_8_k) (fun _ h => (by cases h))

noncomputable def c175_9 : Ct := (175, 1, (34, (zt2 [qtN 33 0 4]), [((.ofNat 1), [(19, (.negSucc 0)), (20, (.negSucc 0)), (21, (.negSucc 0)), (22, (.negSucc 0))])], [qvR 0, qvS 33, qvK (.ofNat 15)], zh48, [(1, [1], []), (2, [1], [])]),
  [((35, [qtA 34], [], [qvS 34], zh48, [(1, [1], []), (2, [1], [])]), 0, 0)])
noncomputable def c175_9_e : List Ct := []
noncomputable def c175_9_pts : List PE := []
set_option maxRecDepth 100000 in
theorem c175_9_k : enCtF c175_9 c175_9_e (pkP (c175_9_pts ++ []) []) (none) noH 3000 = true := by decide +kernel
set_option maxRecDepth 100000 in
theorem c175_9_v : ValidC PPk c175_9 := ct_ok fpk noH_ok (d := 0) (ext := []) (pts := c175_9_pts) (env := c175_9_e) rfl (fun _ h => (by cases h)) ext_nil (fun q h => (by cases h)) (enF c175_9_k) (fun _ h => (by cases h))

noncomputable def c185_0 : Ct := (185, 2, (34, (zt2 [qtN 33 0 3]), [((.ofNat 1), [(19, (.negSucc 0)), (20, (.negSucc 0)), (21, (.negSucc 0)), (22, (.negSucc 0))])], [qvR 0, qvS 33], zh48, [(1, [1], []), (2, [1], [])]),
  [((34, [], [], [qvK (.ofNat 0)], zh48, [(1, [1], []), (2, [1], [])]), 0, 0),
   ((34, [], [], [qvK (.ofNat 1)], zh48, [(1, [1], []), (2, [1], [])]), 0, 0)])
noncomputable def c185_0_e : List Ct := [c175_8, c175_9]
noncomputable def c185_0_pts : List PE := []
set_option maxRecDepth 100000 in
theorem c185_0_k : enCtF c185_0 c185_0_e (pkP (c185_0_pts ++ []) []) (none) noH 3000 = true := by decide +kernel
set_option maxRecDepth 100000 in
theorem c185_0_v : ValidC PPk c185_0 := ct_ok fpk noH_ok (d := 1) (ext := []) (pts := c185_0_pts) (env := c185_0_e) rfl (List.forall_mem_cons.mpr ⟨⟨c175_8_v, Nat.le_of_ble_eq_true rfl⟩, List.forall_mem_cons.mpr ⟨⟨c175_9_v, Nat.le_of_ble_eq_true rfl⟩, fun _ h => (by cases h)⟩⟩) ext_nil (fun q h => (by cases h)) (enF c185_0_k) (fun _ h => (by cases h))

noncomputable def c175_10 : Ct := (175, 1, (34, (zt2 [qtN 33 0 4]), [((.ofNat 1), [(19, (.negSucc 0)), (20, (.negSucc 0)), (21, (.negSucc 0)), (22, (.negSucc 0))])], [qvR 0, qvS 33, qvK (.ofNat 25)], zh48, [(1, [1], []), (2, [1], [])]),
  [((35, [qtA 34], [], [qvS 34], zh48, [(1, [1], []), (2, [1], [])]), 0, 0)])
noncomputable def c175_10_e : List Ct := []
noncomputable def c175_10_pts : List PE := []
set_option maxRecDepth 100000 in
theorem c175_10_k : enCtF c175_10 c175_10_e (pkP (c175_10_pts ++ []) []) (none) noH 3000 = true := by decide +kernel
set_option maxRecDepth 100000 in
theorem c175_10_v : ValidC PPk c175_10 := ct_ok fpk noH_ok (d := 0) (ext := []) (pts := c175_10_pts) (env := c175_10_e) rfl (fun _ h => (by cases h)) ext_nil (fun q h => (by cases h)) (enF c175_10_k) (fun _ h => (by cases h))

noncomputable def c186_0 : Ct := (186, 3, (35, (zt2 [qtN 33 0 3, qtN 34 0 7]), [((.ofNat 1), [(19, (.negSucc 0)), (20, (.negSucc 0)), (21, (.negSucc 0)), (22, (.negSucc 0))])], [qvR 0, qvS 33, qvS 34], zh48, [(1, [1], []), (2, [1], [])]),
  [((35, [], [], [qvK (.ofNat 0)], zh48, [(1, [1], []), (2, [1], [])]), 0, 0),
   ((35, [], [], [qvK (.ofNat 1)], zh48, [(1, [1], []), (2, [1], [])]), 0, 0)])
noncomputable def c186_0_e : List Ct := [c175_10, c185_0]
noncomputable def c186_0_pts : List PE := []
set_option maxRecDepth 100000 in
theorem c186_0_k : enCtF c186_0 c186_0_e (pkP (c186_0_pts ++ []) []) (none) noH 3000 = true := by decide +kernel
set_option maxRecDepth 100000 in
theorem c186_0_v : ValidC PPk c186_0 := ct_ok fpk noH_ok (d := 2) (ext := []) (pts := c186_0_pts) (env := c186_0_e) rfl (List.forall_mem_cons.mpr ⟨⟨c175_10_v, Nat.le_of_ble_eq_true rfl⟩, List.forall_mem_cons.mpr ⟨⟨c185_0_v, Nat.le_of_ble_eq_true rfl⟩, fun _ h => (by cases h)⟩⟩) ext_nil (fun q h => (by cases h)) (enF c186_0_k) (fun _ h => (by cases h))

noncomputable def c175_11 : Ct := (175, 1, (34, (zt2 [qtN 33 0 39]), [((.ofNat 1), [(19, (.negSucc 0)), (20, (.negSucc 0)), (21, (.negSucc 0)), (22, (.negSucc 0))])], [qvR 0, qvK (.ofNat 0), qvS 33], zh48, [(1, [1], []), (2, [1], [])]),
  [((35, [qtA 34], [], [qvS 34], zh48, [(1, [1], []), (2, [1], [])]), 0, 0)])
noncomputable def c175_11_e : List Ct := []
noncomputable def c175_11_pts : List PE := []
set_option maxRecDepth 100000 in
theorem c175_11_k : enCtF c175_11 c175_11_e (pkP (c175_11_pts ++ []) []) (none) noH 3000 = true := by decide +kernel
set_option maxRecDepth 100000 in
theorem c175_11_v : ValidC PPk c175_11 := ct_ok fpk noH_ok (d := 0) (ext := []) (pts := c175_11_pts) (env := c175_11_e) rfl (fun _ h => (by cases h)) ext_nil (fun q h => (by cases h)) (enF c175_11_k) (fun _ h => (by cases h))

noncomputable def c175_12 : Ct := (175, 1, (35, (zt2 [qtN 33 0 4, qtN 34 0 39]), [((.ofNat 1), [(19, (.negSucc 0)), (20, (.negSucc 0)), (21, (.negSucc 0)), (22, (.negSucc 0))])], [qvR 0, qvS 33, qvS 34], zh48, [(1, [1], []), (2, [1], [])]),
  [((36, [qtA 35], [], [qvS 35], zh48, [(1, [1], []), (2, [1], [])]), 0, 0)])
noncomputable def c175_12_e : List Ct := []
noncomputable def c175_12_pts : List PE := []
set_option maxRecDepth 100000 in
theorem c175_12_k : enCtF c175_12 c175_12_e (pkP (c175_12_pts ++ []) []) (none) noH 3000 = true := by decide +kernel
set_option maxRecDepth 100000 in
theorem c175_12_v : ValidC PPk c175_12 := ct_ok fpk noH_ok (d := 0) (ext := []) (pts := c175_12_pts) (env := c175_12_e) rfl (fun _ h => (by cases h)) ext_nil (fun q h => (by cases h)) (enF c175_12_k) (fun _ h => (by cases h))

noncomputable def zh294 : AH := [qoC 12 [qvR 1, qvR 2, qvR 3, qvS 0, qvR 4, qvR 5, qvS 1, qvR 6, qvR 7, qvS 34, qvR 8, qvS 3, qvR 9, qvR 10, qvR 11, qvR 12, qvS 4, qvS 5, qvS 6, qvR 13, qvS 7, qvS 8, qvS 9, qvR 14], zc47, qkC 100 23, qkC 103 24, qkC 100 25, qkC 100 26, qkC 100 27, qjC 1 70, qjC 1 8, qkC 100 28, qkC 100 29, qkC 100 30, qkC 100 31, qkC 100 32, qjC 1 4]
noncomputable def zh295 : AH := [qoC 12 [qvR 1, qvR 2, qvR 3, qvS 0, qvR 4, qvR 5, qvS 1, qvR 6, qvR 7, qvS 35, qvR 8, qvS 3, qvR 9, qvR 10, qvR 11, qvR 12, qvS 4, qvS 5, qvS 6, qvR 13, qvS 7, qvS 8, qvS 9, qvR 14], zc47, qkC 100 23, qkC 103 24, qkC 100 25, qkC 100 26, qkC 100 27, qjC 1 70, qjC 1 8, qkC 100 28, qkC 100 29, qkC 100 30, qkC 100 31, qkC 100 32, qjC 1 4]
noncomputable def zh296 : AH := [qoC 12 [qvR 1, qvR 2, qvR 3, qvS 0, qvR 4, qvR 5, qvS 1, qvR 6, qvR 7, qvS 38, qvR 8, qvS 3, qvR 9, qvR 10, qvR 11, qvR 12, qvS 4, qvS 5, qvS 6, qvR 13, qvS 7, qvS 8, qvS 9, qvR 14], zc47, qkC 100 23, qkC 103 24, qkC 100 25, qkC 100 26, qkC 100 27, qjC 1 70, qjC 1 8, qkC 100 28, qkC 100 29, qkC 100 30, qkC 100 31, qkC 100 32, qjC 1 4]
noncomputable def c184_0 : Ct := (184, 4, (34, (zt2 [qtN 33 0 7]), [((.ofNat 1), [(19, (.negSucc 0)), (20, (.negSucc 0)), (21, (.negSucc 0)), (22, (.negSucc 0))])], [qvR 0, qvS 33], zh48, [(1, [1], []), (2, [1], [])]),
  [((35, [qtN 34 0 4], [], [], zh294, [(1, [1], []), (2, [1], [])]), 0, 0)])
noncomputable def c184_0_e : List Ct := [c175_11, c175_12, c178_0, c179_0, c185_0, c186_0]
noncomputable def c184_0_p0 : PE := (36, [0, 1, 2, 3, 4], (37, (zt2 [qtN 33 0 7, qtN 34 0 4, qtN 35 0 4, qtN 36 0 4]), [((.ofNat 1), [(19, (.negSucc 0)), (20, (.negSucc 0)), (21, (.negSucc 0)), (22, (.negSucc 0))]), ((.ofNat 0), [(34, (.ofNat 1)), (35, (.negSucc 0))]), ((.ofNat 0), [(35, (.negSucc 0)), (36, (.ofNat 1))])], [qvR 0, qvS 33, .inl (false, ((.ofNat 716), [(33, (.ofNat 4))])), qvS 34, qvS 35], zh293, [(1, [1], []), (2, [1], [])]), symsL 34 0, some ((.ofNat 495), [(35, (.negSucc 24))]), 0, 0)
noncomputable def c184_0_p1 : PE := (142, [0, 1, 2, 3, 4], (36, (zt2 [qtN 33 0 7, qtN 34 0 4, qtN 35 0 4]), [((.ofNat 1), [(19, (.negSucc 0)), (20, (.negSucc 0)), (21, (.negSucc 0)), (22, (.negSucc 0))])], [qvR 0, qvS 33, .inl (false, ((.ofNat 716), [(33, (.ofNat 4))])), qvS 34, qvK (.ofNat 0)], zh295, [(1, [1], []), (2, [1], [])]), symsL 34 0, some ((.ofNat 370), []), 0, 0)
noncomputable def c184_0_p2 : PE := (142, [0, 1, 2, 3, 4, 5, 6], (39, (zt2 [qtN 33 0 7, qtN 34 0 4, qtN 35 1 4, qtN 36 0 4, qtN 37 1 4, qtN 38 0 4]), [((.ofNat 1), [(19, (.negSucc 0)), (20, (.negSucc 0)), (21, (.negSucc 0)), (22, (.negSucc 0))]), ((.ofNat 0), [(36, (.ofNat 1)), (37, (.negSucc 0))])], [qvR 0, qvS 33, .inl (false, ((.ofNat 716), [(33, (.ofNat 4))])), qvS 34, qvS 35, qvS 36, qvS 37], zh296, [(1, [1], []), (2, [1], [])]), symsL 34 0, some ((.ofNat 370), [(35, (.negSucc 24))]), 0, 0)
noncomputable def c184_0_p3 : PE := (159, [0, 1, 2, 3, 4, 5, 6], (39, (zt2 [qtN 33 0 7, qtN 34 0 4, qtN 35 0 3, qtN 36 0 4, qtN 37 0 4, qtN 38 0 4]), [((.ofNat 1), [(19, (.negSucc 0)), (20, (.negSucc 0)), (21, (.negSucc 0)), (22, (.negSucc 0))]), ((.ofNat 0), [(36, (.ofNat 1)), (37, (.negSucc 0))])], [qvR 0, qvS 33, .inl (false, ((.ofNat 716), [(33, (.ofNat 4))])), qvS 34, qvS 35, qvS 36, qvS 37], zh296, [(1, [1], []), (2, [1], [])]), symsL 34 0, some ((.ofNat 359), [(35, (.negSucc 24)), (37, (.negSucc 0))]), 0, 0)
noncomputable def c184_0_pts : List PE := [c184_0_p0, c184_0_p1, c184_0_p2, c184_0_p3]
set_option maxRecDepth 100000 in
theorem c184_0_k : enCtF c184_0 c184_0_e (pkP (c184_0_pts ++ []) [0]) (none) (noF, noM, 730756393851751091757627800287709671987062243328, 0, 34) 3000 = true := by decide +kernel
set_option maxRecDepth 100000 in
theorem c184_0_k0 : ptCtF c184_0 c184_0_e (pkP (c184_0_pts ++ []) [1, 0]) (noF, noM, 730756393851751091757627800287709671987062243328, 0, 34) 3000 c184_0_p0 = true := by decide +kernel
set_option maxRecDepth 100000 in
theorem c184_0_k1 : ptCtF c184_0 c184_0_e (pkP (c184_0_pts ++ []) [3]) (noF, noM, 730756393851751091757627800287709671987062243328, 0, 34) 3000 c184_0_p1 = true := by decide +kernel
set_option maxRecDepth 100000 in
theorem c184_0_k2 : ptCtF c184_0 c184_0_e (pkP (c184_0_pts ++ []) [3]) (noF, noM, 730756393851751091757627800287709671987062243328, 0, 34) 3000 c184_0_p2 = true := by decide +kernel
set_option maxRecDepth 100000 in
theorem c184_0_k3 : ptCtF c184_0 c184_0_e (pkP (c184_0_pts ++ []) [2, 3]) (noF, noM, 730756393851751091757627800287709671987062243328, 0, 34) 3000 c184_0_p3 = true := by decide +kernel
set_option maxRecDepth 100000 in
theorem c184_0_v : ValidC PPk c184_0 := ct_ok fpk ⟨noF_ok, noM_ok⟩ (d := 3) (ext := []) (pts := c184_0_pts) (env := c184_0_e) rfl (List.forall_mem_cons.mpr ⟨⟨c175_11_v, Nat.le_of_ble_eq_true rfl⟩, List.forall_mem_cons.mpr ⟨⟨c175_12_v, Nat.le_of_ble_eq_true rfl⟩, List.forall_mem_cons.mpr ⟨⟨c178_0_v, Nat.le_of_ble_eq_true rfl⟩, List.forall_mem_cons.mpr ⟨⟨c179_0_v, Nat.le_of_ble_eq_true rfl⟩, List.forall_mem_cons.mpr ⟨⟨c185_0_v, Nat.le_of_ble_eq_true rfl⟩, List.forall_mem_cons.mpr ⟨⟨c186_0_v, Nat.le_of_ble_eq_true rfl⟩, fun _ h => (by cases h)⟩⟩⟩⟩⟩⟩) ext_nil (fun q h => (by cases h)) (enF c184_0_k) (List.forall_mem_cons.mpr ⟨⟨_, ptF c184_0_k0⟩, List.forall_mem_cons.mpr ⟨⟨_, ptF c184_0_k1⟩, List.forall_mem_cons.mpr ⟨⟨_, ptF c184_0_k2⟩, List.forall_mem_cons.mpr ⟨⟨_, ptF c184_0_k3⟩, fun _ h => (by cases h)⟩⟩⟩⟩)

noncomputable def c187_0 : Ct := (187, 4, (34, (zt2 [qtN 33 0 3]), [((.ofNat 1), [(19, (.negSucc 0)), (20, (.negSucc 0)), (21, (.negSucc 0)), (22, (.negSucc 0))])], [qvR 0, qvS 33], zh48, [(1, [1], []), (2, [1], [])]),
  [((35, [qtN 34 0 1], [], [qvS 34], zh48, [(1, [1], []), (2, [1], [])]), 0, 0)])
noncomputable def c187_0_e : List Ct := [c175_9, c175_12, c186_0]
noncomputable def c187_0_p0 : PE := (2, [0, 1, 2], (34, (zt2 [qtN 33 0 3]), [((.ofNat 1), [(19, (.negSucc 0)), (20, (.negSucc 0)), (21, (.negSucc 0)), (22, (.negSucc 0))])], [qvR 0, qvS 33, qvK (.ofNat 0)], zh48, [(1, [1], []), (2, [1], [])]), symsL 34 0, some ((.ofNat 17), []), 0, 0)
noncomputable def c187_0_p1 : PE := (2, [0, 1, 2, 3], (36, (zt2 [qtN 33 0 3, qtN 34 1 8, qtN 35 716 910]), [((.ofNat 1), [(19, (.negSucc 0)), (20, (.negSucc 0)), (21, (.negSucc 0)), (22, (.negSucc 0))])], [qvR 0, qvS 33, qvS 34, qvS 35], zh48, [(1, [1], []), (2, [1], [])]), symsL 34 0, some ((.ofNat 17), [(34, (.negSucc 0))]), 0, 0)
noncomputable def c187_0_p2 : PE := (2, [0, 1, 2, 3, 4, 6], (38, (zt2 [qtN 33 0 3, qtN 34 1 8, qtN 35 716 910, (36, (.negSucc 2147483646), (.ofNat 2147483647)), qtA 37]), [((.ofNat 1), [(19, (.negSucc 0)), (20, (.negSucc 0)), (21, (.negSucc 0)), (22, (.negSucc 0))])], [qvR 0, qvS 33, qvS 34, qvS 35, .inl (true, (sL 36)), .inl (true, (sL 37))], zh48, [(1, [1], []), (2, [1], [])]), symsL 34 0, some ((.ofNat 17), [(34, (.negSucc 0))]), 0, 0)
noncomputable def c187_0_pts : List PE := [c187_0_p0, c187_0_p1, c187_0_p2]
set_option maxRecDepth 100000 in
theorem c187_0_k : enCtF c187_0 c187_0_e (pkP (c187_0_pts ++ []) [0]) (none) (noF, noM, 4, 0, 34) 3000 = true := by decide +kernel
set_option maxRecDepth 100000 in
theorem c187_0_k0 : ptCtF c187_0 c187_0_e (pkP (c187_0_pts ++ []) [1, 2]) (noF, noM, 4, 0, 34) 3000 c187_0_p0 = true := by decide +kernel
set_option maxRecDepth 100000 in
theorem c187_0_k1 : ptCtF c187_0 c187_0_e (pkP (c187_0_pts ++ []) [1, 2]) (noF, noM, 4, 0, 34) 3000 c187_0_p1 = true := by decide +kernel
set_option maxRecDepth 100000 in
theorem c187_0_k2 : ptCtF c187_0 c187_0_e (pkP (c187_0_pts ++ []) [2]) (noF, noM, 4, 0, 34) 3000 c187_0_p2 = true := by decide +kernel
set_option maxRecDepth 100000 in
theorem c187_0_v : ValidC PPk c187_0 := ct_ok fpk ⟨noF_ok, noM_ok⟩ (d := 3) (ext := []) (pts := c187_0_pts) (env := c187_0_e) rfl (List.forall_mem_cons.mpr ⟨⟨c175_9_v, Nat.le_of_ble_eq_true rfl⟩, List.forall_mem_cons.mpr ⟨⟨c175_12_v, Nat.le_of_ble_eq_true rfl⟩, List.forall_mem_cons.mpr ⟨⟨c186_0_v, Nat.le_of_ble_eq_true rfl⟩, fun _ h => (by cases h)⟩⟩⟩) ext_nil (fun q h => (by cases h)) (enF c187_0_k) (List.forall_mem_cons.mpr ⟨⟨_, ptF c187_0_k0⟩, List.forall_mem_cons.mpr ⟨⟨_, ptF c187_0_k1⟩, List.forall_mem_cons.mpr ⟨⟨_, ptF c187_0_k2⟩, fun _ h => (by cases h)⟩⟩⟩)

noncomputable def zt121 (r : TbL) : TbL := qtN 0 0 69 :: qtN 1 0 69 :: qtN 2 0 8 :: qtA 3 :: qtA 4 :: qtA 5 :: qtA 6 :: qtA 7 :: qtA 8 :: qtA 9 :: qtN 10 2 4 :: qtN 11 0 60 :: qtN 12 0 8 :: qtN 13 0 6 :: qtN 14 0 8 :: qtN 15 0 60 :: qtN 16 0 60 :: qtN 17 0 10 :: qtA 18 :: qtN 19 0 1 :: qtN 20 0 1 :: qtN 21 0 1 :: qtN 22 0 1 :: r
noncomputable def zt122 (r : TbL) : TbL := qtN 0 0 69 :: qtN 1 0 69 :: qtN 2 0 8 :: qtA 3 :: qtA 4 :: qtA 5 :: qtA 6 :: qtA 7 :: qtA 8 :: qtA 9 :: qtN 10 3 4 :: qtN 11 0 60 :: qtN 12 0 8 :: qtN 13 0 6 :: qtN 14 0 8 :: qtN 15 0 60 :: qtN 16 0 60 :: qtN 17 0 10 :: qtA 18 :: qtN 19 0 1 :: qtN 20 0 1 :: qtN 21 0 1 :: qtN 22 0 1 :: r
noncomputable def zt123 (r : TbL) : TbL := qtN 0 0 69 :: qtN 1 0 69 :: qtN 2 0 8 :: qtA 3 :: qtA 4 :: qtA 5 :: qtA 6 :: qtA 7 :: qtA 8 :: qtA 9 :: qtN 10 4 4 :: qtN 11 0 60 :: qtN 12 0 8 :: qtN 13 0 6 :: qtN 14 0 8 :: qtN 15 0 60 :: qtN 16 0 60 :: qtN 17 0 10 :: qtA 18 :: qtN 19 0 1 :: qtN 20 0 1 :: qtN 21 0 1 :: qtN 22 0 1 :: r
noncomputable def c188_0 : Ct := (188, 2, (33, (zt2 []), [((.ofNat 1), [(19, (.negSucc 0)), (20, (.negSucc 0)), (21, (.negSucc 0)), (22, (.negSucc 0))])], [qvR 0], zh48, [(1, [1], []), (2, [1], [])]),
  [((33, [qtN 10 1 1], [], [qvS 19], zh48, [(1, [1], []), (2, [1], [])]), 0, 0),
   ((33, [qtN 10 2 2], [], [.inl (false, ((.ofNat 0), [(19, (.ofNat 1)), (20, (.ofNat 1))]))], zh48, [(1, [1], []), (2, [1], [])]), 0, 0),
   ((33, [qtN 10 3 3], [], [.inl (false, ((.ofNat 0), [(19, (.ofNat 1)), (20, (.ofNat 1)), (21, (.ofNat 1))]))], zh48, [(1, [1], []), (2, [1], [])]), 0, 0),
   ((33, [qtN 10 4 4], [], [.inl (false, ((.ofNat 0), [(19, (.ofNat 1)), (20, (.ofNat 1)), (21, (.ofNat 1)), (22, (.ofNat 1))]))], zh48, [(1, [1], []), (2, [1], [])]), 0, 0)])
noncomputable def c188_0_e : List Ct := [c175_0, c175_1, c175_2, c175_3]
noncomputable def c188_0_p0 : PE := (4, [2, 0, 1], (33, (zt2 []), [((.ofNat 1), [(19, (.negSucc 0)), (20, (.negSucc 0)), (21, (.negSucc 0)), (22, (.negSucc 0))])], [qvK (.ofNat 0), qvR 0, qvK (.ofNat 0)], zh48, [(1, [1], []), (2, [1], [])]), symsL 33 0, some ((.ofNat 9), []), 0, 0)
noncomputable def c188_0_p1 : PE := (4, [2, 0, 1], (33, (zt2 []), [((.ofNat 1), [(19, (.negSucc 0)), (20, (.negSucc 0)), (21, (.negSucc 0)), (22, (.negSucc 0))])], [qvK (.ofNat 1), qvR 0, qvS 19], zh48, [(1, [1], []), (2, [1], [])]), symsL 33 0, some ((.ofNat 8), []), 0, 0)
noncomputable def c188_0_p2 : PE := (4, [2, 0, 1], (33, (zt121 []), [((.ofNat 1), [(19, (.negSucc 0)), (20, (.negSucc 0)), (21, (.negSucc 0)), (22, (.negSucc 0))])], [qvK (.ofNat 2), qvR 0, .inl (false, ((.ofNat 0), [(19, (.ofNat 1)), (20, (.ofNat 1))]))], zh48, [(1, [1], []), (2, [1], [])]), symsL 33 0, some ((.ofNat 7), []), 0, 0)
noncomputable def c188_0_p3 : PE := (4, [2, 0, 1], (33, (zt122 []), [((.ofNat 1), [(19, (.negSucc 0)), (20, (.negSucc 0)), (21, (.negSucc 0)), (22, (.negSucc 0))])], [qvK (.ofNat 3), qvR 0, .inl (false, ((.ofNat 0), [(19, (.ofNat 1)), (20, (.ofNat 1)), (21, (.ofNat 1))]))], zh48, [(1, [1], []), (2, [1], [])]), symsL 33 0, some ((.ofNat 6), []), 0, 0)
noncomputable def c188_0_p4 : PE := (4, [2, 0, 1], (33, (zt123 []), [((.ofNat 1), [(19, (.negSucc 0)), (20, (.negSucc 0)), (21, (.negSucc 0)), (22, (.negSucc 0))])], [qvK (.ofNat 4), qvR 0, .inl (false, ((.ofNat 0), [(19, (.ofNat 1)), (20, (.ofNat 1)), (21, (.ofNat 1)), (22, (.ofNat 1))]))], zh48, [(1, [1], []), (2, [1], [])]), symsL 33 0, some ((.ofNat 5), []), 0, 0)
noncomputable def c188_0_pts : List PE := [c188_0_p0, c188_0_p1, c188_0_p2, c188_0_p3, c188_0_p4]
set_option maxRecDepth 100000 in
theorem c188_0_k : enCtF c188_0 c188_0_e (pkP (c188_0_pts ++ []) [0]) (none) (noF, noM, 16, 0, 33) 3000 = true := by decide +kernel
set_option maxRecDepth 100000 in
theorem c188_0_k0 : ptCtF c188_0 c188_0_e (pkP (c188_0_pts ++ []) [1]) (noF, noM, 16, 0, 33) 3000 c188_0_p0 = true := by decide +kernel
set_option maxRecDepth 100000 in
theorem c188_0_k1 : ptCtF c188_0 c188_0_e (pkP (c188_0_pts ++ []) [2]) (noF, noM, 16, 0, 33) 3000 c188_0_p1 = true := by decide +kernel
set_option maxRecDepth 100000 in
theorem c188_0_k2 : ptCtF c188_0 c188_0_e (pkP (c188_0_pts ++ []) [3]) (noF, noM, 16, 0, 33) 3000 c188_0_p2 = true := by decide +kernel
set_option maxRecDepth 100000 in
theorem c188_0_k3 : ptCtF c188_0 c188_0_e (pkP (c188_0_pts ++ []) [4]) (noF, noM, 16, 0, 33) 3000 c188_0_p3 = true := by decide +kernel
set_option maxRecDepth 100000 in
theorem c188_0_k4 : ptCtF c188_0 c188_0_e (pkP (c188_0_pts ++ []) []) (noF, noM, 16, 0, 33) 3000 c188_0_p4 = true := by decide +kernel
set_option maxRecDepth 100000 in
theorem c188_0_v : ValidC PPk c188_0 := ct_ok fpk ⟨noF_ok, noM_ok⟩ (d := 1) (ext := []) (pts := c188_0_pts) (env := c188_0_e) rfl (List.forall_mem_cons.mpr ⟨⟨c175_0_v, Nat.le_of_ble_eq_true rfl⟩, List.forall_mem_cons.mpr ⟨⟨c175_1_v, Nat.le_of_ble_eq_true rfl⟩, List.forall_mem_cons.mpr ⟨⟨c175_2_v, Nat.le_of_ble_eq_true rfl⟩, List.forall_mem_cons.mpr ⟨⟨c175_3_v, Nat.le_of_ble_eq_true rfl⟩, fun _ h => (by cases h)⟩⟩⟩⟩) ext_nil (fun q h => (by cases h)) (enF c188_0_k) (List.forall_mem_cons.mpr ⟨⟨_, ptF c188_0_k0⟩, List.forall_mem_cons.mpr ⟨⟨_, ptF c188_0_k1⟩, List.forall_mem_cons.mpr ⟨⟨_, ptF c188_0_k2⟩, List.forall_mem_cons.mpr ⟨⟨_, ptF c188_0_k3⟩, List.forall_mem_cons.mpr ⟨⟨_, ptF c188_0_k4⟩, fun _ h => (by cases h)⟩⟩⟩⟩⟩)

noncomputable def zc297 : AC := qoC 12 [qvR 1, qvR 2, qvR 3, qvS 0, qvR 4, qvR 5, qvS 1, qvR 6, qvR 7, qvS 33, qvR 8, qvS 34, qvR 9, qvR 10, qvR 11, qvR 12, qvS 4, qvS 5, qvS 6, qvR 13, qvS 7, qvS 8, qvS 9, qvR 14]
noncomputable def zt124 (r : TbL) : TbL := qtN 0 0 69 :: qtN 1 0 69 :: qtN 2 0 8 :: qtA 3 :: qtA 4 :: qtA 5 :: qtA 6 :: qtA 7 :: qtA 8 :: qtA 9 :: qtN 10 1 3 :: qtN 11 0 60 :: qtN 12 0 8 :: qtN 13 0 6 :: qtN 14 0 8 :: qtN 15 0 60 :: qtN 16 0 60 :: qtN 17 0 10 :: qtA 18 :: qtN 19 0 0 :: qtN 20 0 1 :: qtN 21 0 1 :: qtN 22 0 1 :: qtN 33 0 8 :: r
noncomputable def zh298 : AH := [qoC 12 [qvR 1, qvR 2, qvR 3, qvS 0, qvR 4, qvR 5, qvS 1, qvR 6, qvR 7, qvS 33, qvR 8, qvK (.ofNat 0), qvR 9, qvR 10, qvR 11, qvR 12, qvS 4, qvS 5, qvS 6, qvR 13, qvS 7, qvS 8, qvS 9, qvR 14], zc47, qkC 100 23, qkC 103 24, qkC 100 25, qkC 100 26, qkC 100 27, qjC 1 70, qjC 1 8, qkC 100 28, qkC 100 29, qkC 100 30, qkC 100 31, qkC 100 32, qjC 1 4]
noncomputable def zc299 : AC := qoC 12 [qvR 1, qvR 2, qvR 3, qvS 0, qvR 4, qvR 5, qvS 1, qvR 6, qvR 7, qvS 34, qvR 8, qvS 35, qvR 9, qvR 10, qvR 11, qvR 12, qvS 4, qvS 5, qvS 6, qvR 13, qvS 7, qvS 8, qvS 9, qvR 14]
noncomputable def c183_0 : Ct := (183, 5, (33, (zt2 []), [((.ofNat 1), [(19, (.negSucc 0)), (20, (.negSucc 0)), (21, (.negSucc 0)), (22, (.negSucc 0))])], [qvR 0], zh48, [(1, [1], []), (2, [1], [])]),
  [((39, [qtN 33 0 8, qtA 34, qtN 35 0 1, qtN 36 0 1, qtN 37 0 1, qtN 38 0 1], [((.ofNat 1), [(35, (.negSucc 0)), (36, (.negSucc 0)), (37, (.negSucc 0)), (38, (.negSucc 0))])], [], [zc297, qiC 0 [qgS 10, qgS 11, qgS 12, qgS 13, qgS 14, qgS 15, qgS 16, qgS 17, qgA 5, qgN 1 0 3, qgS 18, qgA 2, qgN 1 1 1000, qgN 1 0 50, qgA 23, qgS 35, qgA 39, qgS 36, qgA 39, qgS 37, qgA 39, qgS 38, qgA 517, qgN 12 0 60, qgN 1 0 5, qgN 1 0 39, qgN 1 0 40, qgN 1 0 5, qgN 1 0 39, qgN 1 0 40, qgN 1 0 5, qgN 1 0 39, qgN 1 0 40, qgN 1 0 5, qgN 1 0 39, qgN 1 0 40, qgN 1 0 5, qgN 1 0 39, qgN 1 0 40, qgN 1 0 5, qgN 1 0 39, qgN 1 0 40, qgN 1 0 5, qgN 1 0 39, qgN 1 0 40, qgN 1 0 5, qgN 1 0 39, qgN 1 0 40, qgA 76, qgA 2, qgN 1 0 5, qgA 2, qgA 2, qgN 1 0 5, qgA 2, qgA 2, qgN 1 0 5, qgA 2, qgA 2, qgN 1 0 5, qgA 2, qgA 2, qgN 1 0 5, qgA 2, qgA 2, qgN 1 0 5, qgA 2, qgA 2, qgN 1 0 5, qgA 2, qgA 2, qgN 1 0 5, qgA 2, qgN 60 0 127, qgA 18], qkC 100 23, qkC 103 24, qkC 100 25, qkC 100 26, qkC 100 27, qjC 1 70, qjC 1 8, qkC 100 28, qkC 100 29, qkC 100 30, qkC 100 31, qkC 100 32, qjC 1 4], [(1, [1], []), (2, [1], [])]), 0, 0)])
noncomputable def c183_0_e : List Ct := [c175_0, c175_1, c175_2, c175_3, c175_11, c175_12, c184_0, c187_0, c188_0]
noncomputable def c183_0_p0 : PE := (10, [0, 1], (35, (zt2 [qtN 33 0 8, qtN 34 0 8]), [((.ofNat 1), [(19, (.negSucc 0)), (20, (.negSucc 0)), (21, (.negSucc 0)), (22, (.negSucc 0))])], [qvR 0, qvS 33], zh294, [(1, [1], []), (2, [1], [])]), symsL 33 0, some ((.ofNat 35), [(33, (.negSucc 0))]), 0, 0)
noncomputable def c183_0_p1 : PE := (29, [1, 0], (34, (zt2 [qtN 33 0 8]), [((.ofNat 1), [(19, (.negSucc 0)), (20, (.negSucc 0)), (21, (.negSucc 0)), (22, (.negSucc 0))])], [qvK (.ofNat 0), qvR 0], zh291, [(1, [1], []), (2, [1], [])]), symsL 33 0, some ((.ofNat 22), []), 0, 0)
noncomputable def c183_0_p2 : PE := (29, [1, 0, 2], (35, (zt117 [qtN 33 0 1, qtN 34 0 8]), [((.ofNat 1), [(19, (.negSucc 0)), (20, (.negSucc 0)), (21, (.negSucc 0)), (22, (.negSucc 0))])], [qvK (.ofNat 1), qvR 0, qvS 33], zh294, [(1, [1], []), (2, [1], [])]), symsL 33 0, some ((.ofNat 21), []), 0, 0)
noncomputable def c183_0_p3 : PE := (29, [1, 0], (34, (zt105 [qtN 19 0 0, qtN 20 0 1, qtN 21 0 1, qtN 22 0 1, qtN 33 0 8]), [((.ofNat 1), [(19, (.negSucc 0)), (20, (.negSucc 0)), (21, (.negSucc 0)), (22, (.negSucc 0))])], [qvK (.ofNat 1), qvR 0], zh291, [(1, [1], []), (2, [1], [])]), symsL 33 0, some ((.ofNat 21), []), 0, 0)
noncomputable def c183_0_p4 : PE := (29, [1, 0, 2], (35, (zt121 [qtN 33 0 1, qtN 34 0 8]), [((.ofNat 1), [(19, (.negSucc 0)), (20, (.negSucc 0)), (21, (.negSucc 0)), (22, (.negSucc 0))])], [qvK (.ofNat 2), qvR 0, qvS 33], zh294, [(1, [1], []), (2, [1], [])]), symsL 33 0, some ((.ofNat 20), []), 0, 0)
noncomputable def c183_0_p5 : PE := (29, [1, 0], (34, (zt108 [qtN 19 0 0, qtN 20 0 0, qtN 21 0 1, qtN 22 0 1, qtN 33 0 8]), [((.ofNat 1), [(19, (.negSucc 0)), (20, (.negSucc 0)), (21, (.negSucc 0)), (22, (.negSucc 0))])], [qvK (.ofNat 2), qvR 0], zh291, [(1, [1], []), (2, [1], [])]), symsL 33 0, some ((.ofNat 20), []), 0, 0)
noncomputable def c183_0_p6 : PE := (29, [1, 0, 2], (35, (zt122 [qtN 33 0 1, qtN 34 0 8]), [((.ofNat 1), [(19, (.negSucc 0)), (20, (.negSucc 0)), (21, (.negSucc 0)), (22, (.negSucc 0))])], [qvK (.ofNat 3), qvR 0, qvS 33], zh294, [(1, [1], []), (2, [1], [])]), symsL 33 0, some ((.ofNat 19), []), 0, 0)
noncomputable def c183_0_p7 : PE := (29, [1, 0], (34, (zt111 [qtN 19 0 0, qtN 20 0 0, qtN 21 0 0, qtN 22 0 1, qtN 33 0 8]), [((.ofNat 1), [(19, (.negSucc 0)), (20, (.negSucc 0)), (21, (.negSucc 0)), (22, (.negSucc 0))])], [qvK (.ofNat 3), qvR 0], zh291, [(1, [1], []), (2, [1], [])]), symsL 33 0, some ((.ofNat 19), []), 0, 0)
noncomputable def c183_0_p8 : PE := (29, [1, 0, 2], (35, (zt123 [qtN 33 0 1, qtN 34 0 8]), [((.ofNat 1), [(19, (.negSucc 0)), (20, (.negSucc 0)), (21, (.negSucc 0)), (22, (.negSucc 0))])], [qvK (.ofNat 4), qvR 0, qvS 33], zh294, [(1, [1], []), (2, [1], [])]), symsL 33 0, some ((.ofNat 18), []), 0, 0)
noncomputable def c183_0_p9 : PE := (122, [1, 0, 2], (35, (zt2 [qtN 33 0 1, qtN 34 0 8]), [((.ofNat 1), [(19, (.negSucc 0)), (20, (.negSucc 0)), (21, (.negSucc 0)), (22, (.negSucc 0))])], [qvK (.ofNat 0), qvR 0, qvS 33], [qoC 12 [qvR 1, qvR 2, qvR 3, qvS 0, qvR 4, qvR 5, qvS 1, qvR 6, qvR 7, qvS 34, qvR 8, qvK (.ofNat 0), qvR 9, qvR 10, qvR 11, qvR 12, qvS 4, qvS 5, qvS 6, qvR 13, qvS 7, qvS 8, qvS 9, qvR 14], zc47, qkC 100 23, qkC 103 24, qkC 100 25, qkC 100 26, qkC 100 27, qjC 1 70, qjC 1 8, qkC 100 28, qkC 100 29, qkC 100 30, qkC 100 31, qkC 100 32, qjC 1 4], [(1, [1], []), (2, [1], [])]), symsL 33 0, some ((.ofNat 13), []), 0, 0)
noncomputable def c183_0_p10 : PE := (122, [1, 0], (34, (zt124 []), [((.ofNat 1), [(19, (.negSucc 0)), (20, (.negSucc 0)), (21, (.negSucc 0)), (22, (.negSucc 0))])], [qvK (.ofNat 0), qvR 0], zh298, [(1, [1], []), (2, [1], [])]), symsL 33 0, some ((.ofNat 13), []), 0, 0)
noncomputable def c183_0_p11 : PE := (122, [1, 0, 2], (37, (zt2 [qtN 33 0 1, qtN 34 0 8, qtN 35 0 1, qtN 36 0 1]), [((.ofNat 1), [(19, (.negSucc 0)), (20, (.negSucc 0)), (21, (.negSucc 0)), (22, (.negSucc 0))]), ((.ofNat 1), [(20, (.negSucc 0)), (21, (.negSucc 0)), (22, (.negSucc 0)), (36, (.negSucc 0))])], [qvK (.ofNat 1), qvR 0, qvS 33], [zc299, qiC 0 [qgS 10, qgS 11, qgS 12, qgS 13, qgS 14, qgS 15, qgS 16, qgS 17, qgA 5, qgN 1 0 3, qgS 18, qgA 2, qgN 1 1 1000, qgN 1 0 50, qgA 23, qgS 36, qgA 39, qgS 20, qgA 39, qgS 21, qgA 39, qgS 22, qgA 517, qgN 12 0 60, qgN 1 0 5, qgN 1 0 39, qgN 1 0 40, qgN 1 0 5, qgN 1 0 39, qgN 1 0 40, qgN 1 0 5, qgN 1 0 39, qgN 1 0 40, qgN 1 0 5, qgN 1 0 39, qgN 1 0 40, qgN 1 0 5, qgN 1 0 39, qgN 1 0 40, qgN 1 0 5, qgN 1 0 39, qgN 1 0 40, qgN 1 0 5, qgN 1 0 39, qgN 1 0 40, qgN 1 0 5, qgN 1 0 39, qgN 1 0 40, qgA 76, qgA 2, qgN 1 0 5, qgA 2, qgA 2, qgN 1 0 5, qgA 2, qgA 2, qgN 1 0 5, qgA 2, qgA 2, qgN 1 0 5, qgA 2, qgA 2, qgN 1 0 5, qgA 2, qgA 2, qgN 1 0 5, qgA 2, qgA 2, qgN 1 0 5, qgA 2, qgA 2, qgN 1 0 5, qgA 2, qgN 60 0 127, qgA 18], qkC 100 23, qkC 103 24, qkC 100 25, qkC 100 26, qkC 100 27, qjC 1 70, qjC 1 8, qkC 100 28, qkC 100 29, qkC 100 30, qkC 100 31, qkC 100 32, qjC 1 4], [(1, [1], []), (2, [1], [])]), symsL 33 0, some ((.ofNat 12), []), 0, 0)
noncomputable def c183_0_p12 : PE := (122, [1, 0], (34, (zt124 []), [((.ofNat 1), [(19, (.negSucc 0)), (20, (.negSucc 0)), (21, (.negSucc 0)), (22, (.negSucc 0))])], [qvK (.ofNat 1), qvR 0], zh298, [(1, [1], []), (2, [1], [])]), symsL 33 0, some ((.ofNat 12), []), 0, 0)
noncomputable def c183_0_p13 : PE := (122, [1, 0, 2], (38, (zt121 [qtN 33 0 1, qtN 34 0 8, qtA 35, qtN 36 0 1, qtN 37 0 1]), [((.ofNat 1), [(19, (.negSucc 0)), (20, (.negSucc 0)), (21, (.negSucc 0)), (22, (.negSucc 0))]), ((.ofNat 1), [(21, (.negSucc 0)), (22, (.negSucc 0)), (36, (.negSucc 0)), (37, (.negSucc 0))])], [qvK (.ofNat 2), qvR 0, qvS 33], [zc299, qiC 0 [qgS 10, qgS 11, qgS 12, qgS 13, qgS 14, qgS 15, qgS 16, qgS 17, qgA 5, qgN 1 0 3, qgS 18, qgA 2, qgN 1 1 1000, qgN 1 0 50, qgA 23, qgS 36, qgA 39, qgS 37, qgA 39, qgS 21, qgA 39, qgS 22, qgA 517, qgN 12 0 60, qgN 1 0 5, qgN 1 0 39, qgN 1 0 40, qgN 1 0 5, qgN 1 0 39, qgN 1 0 40, qgN 1 0 5, qgN 1 0 39, qgN 1 0 40, qgN 1 0 5, qgN 1 0 39, qgN 1 0 40, qgN 1 0 5, qgN 1 0 39, qgN 1 0 40, qgN 1 0 5, qgN 1 0 39, qgN 1 0 40, qgN 1 0 5, qgN 1 0 39, qgN 1 0 40, qgN 1 0 5, qgN 1 0 39, qgN 1 0 40, qgA 76, qgA 2, qgN 1 0 5, qgA 2, qgA 2, qgN 1 0 5, qgA 2, qgA 2, qgN 1 0 5, qgA 2, qgA 2, qgN 1 0 5, qgA 2, qgA 2, qgN 1 0 5, qgA 2, qgA 2, qgN 1 0 5, qgA 2, qgA 2, qgN 1 0 5, qgA 2, qgA 2, qgN 1 0 5, qgA 2, qgN 60 0 127, qgA 18], qkC 100 23, qkC 103 24, qkC 100 25, qkC 100 26, qkC 100 27, qjC 1 70, qjC 1 8, qkC 100 28, qkC 100 29, qkC 100 30, qkC 100 31, qkC 100 32, qjC 1 4], [(1, [1], []), (2, [1], [])]), symsL 33 0, some ((.ofNat 11), []), 0, 0)
noncomputable def c183_0_p14 : PE := (122, [1, 0], (36, (zt5 [qtN 10 2 3, qtN 11 0 60, qtN 12 0 8, qtN 13 0 6, qtN 14 0 8, qtN 15 0 60, qtN 16 0 60, qtN 17 0 10, qtA 18, qtN 19 0 0, qtN 20 0 1, qtN 21 0 1, qtN 22 0 1, qtN 33 0 8, qtN 34 0 2, qtN 35 0 1]), [((.ofNat 1), [(19, (.negSucc 0)), (20, (.negSucc 0)), (21, (.negSucc 0)), (22, (.negSucc 0))]), ((.ofNat 1), [(19, (.negSucc 0)), (21, (.negSucc 0)), (22, (.negSucc 0)), (35, (.negSucc 0))])], [qvK (.ofNat 2), qvR 0], [zc297, qiC 0 [qgS 10, qgS 11, qgS 12, qgS 13, qgS 14, qgS 15, qgS 16, qgS 17, qgA 5, qgN 1 0 3, qgS 18, qgA 2, qgN 1 1 1000, qgN 1 0 50, qgA 23, qgS 19, qgA 39, qgS 35, qgA 39, qgS 21, qgA 39, qgS 22, qgA 517, qgN 12 0 60, qgN 1 0 5, qgN 1 0 39, qgN 1 0 40, qgN 1 0 5, qgN 1 0 39, qgN 1 0 40, qgN 1 0 5, qgN 1 0 39, qgN 1 0 40, qgN 1 0 5, qgN 1 0 39, qgN 1 0 40, qgN 1 0 5, qgN 1 0 39, qgN 1 0 40, qgN 1 0 5, qgN 1 0 39, qgN 1 0 40, qgN 1 0 5, qgN 1 0 39, qgN 1 0 40, qgN 1 0 5, qgN 1 0 39, qgN 1 0 40, qgA 76, qgA 2, qgN 1 0 5, qgA 2, qgA 2, qgN 1 0 5, qgA 2, qgA 2, qgN 1 0 5, qgA 2, qgA 2, qgN 1 0 5, qgA 2, qgA 2, qgN 1 0 5, qgA 2, qgA 2, qgN 1 0 5, qgA 2, qgA 2, qgN 1 0 5, qgA 2, qgA 2, qgN 1 0 5, qgA 2, qgN 60 0 127, qgA 18], qkC 100 23, qkC 103 24, qkC 100 25, qkC 100 26, qkC 100 27, qjC 1 70, qjC 1 8, qkC 100 28, qkC 100 29, qkC 100 30, qkC 100 31, qkC 100 32, qjC 1 4], [(1, [1], []), (2, [1], [])]), symsL 33 0, some ((.ofNat 11), []), 0, 0)
noncomputable def c183_0_p15 : PE := (122, [1, 0, 2], (39, (zt122 [qtN 33 0 1, qtN 34 0 8, qtA 35, qtN 36 0 1, qtN 37 0 1, qtN 38 0 1]), [((.ofNat 1), [(19, (.negSucc 0)), (20, (.negSucc 0)), (21, (.negSucc 0)), (22, (.negSucc 0))]), ((.ofNat 1), [(22, (.negSucc 0)), (36, (.negSucc 0)), (37, (.negSucc 0)), (38, (.negSucc 0))])], [qvK (.ofNat 3), qvR 0, qvS 33], [zc299, qiC 0 [qgS 10, qgS 11, qgS 12, qgS 13, qgS 14, qgS 15, qgS 16, qgS 17, qgA 5, qgN 1 0 3, qgS 18, qgA 2, qgN 1 1 1000, qgN 1 0 50, qgA 23, qgS 36, qgA 39, qgS 37, qgA 39, qgS 38, qgA 39, qgS 22, qgA 517, qgN 12 0 60, qgN 1 0 5, qgN 1 0 39, qgN 1 0 40, qgN 1 0 5, qgN 1 0 39, qgN 1 0 40, qgN 1 0 5, qgN 1 0 39, qgN 1 0 40, qgN 1 0 5, qgN 1 0 39, qgN 1 0 40, qgN 1 0 5, qgN 1 0 39, qgN 1 0 40, qgN 1 0 5, qgN 1 0 39, qgN 1 0 40, qgN 1 0 5, qgN 1 0 39, qgN 1 0 40, qgN 1 0 5, qgN 1 0 39, qgN 1 0 40, qgA 76, qgA 2, qgN 1 0 5, qgA 2, qgA 2, qgN 1 0 5, qgA 2, qgA 2, qgN 1 0 5, qgA 2, qgA 2, qgN 1 0 5, qgA 2, qgA 2, qgN 1 0 5, qgA 2, qgA 2, qgN 1 0 5, qgA 2, qgA 2, qgN 1 0 5, qgA 2, qgA 2, qgN 1 0 5, qgA 2, qgN 60 0 127, qgA 18], qkC 100 23, qkC 103 24, qkC 100 25, qkC 100 26, qkC 100 27, qjC 1 70, qjC 1 8, qkC 100 28, qkC 100 29, qkC 100 30, qkC 100 31, qkC 100 32, qjC 1 4], [(1, [1], []), (2, [1], [])]), symsL 33 0, some ((.ofNat 10), []), 0, 0)
noncomputable def c183_0_p16 : PE := (122, [1, 0], (37, (zt5 [qtN 10 3 3, qtN 11 0 60, qtN 12 0 8, qtN 13 0 6, qtN 14 0 8, qtN 15 0 60, qtN 16 0 60, qtN 17 0 10, qtA 18, qtN 19 0 0, qtN 20 0 1, qtN 21 0 1, qtN 22 0 1, qtN 33 0 8, qtA 34, qtN 35 0 1, qtN 36 0 1]), [((.ofNat 1), [(19, (.negSucc 0)), (20, (.negSucc 0)), (21, (.negSucc 0)), (22, (.negSucc 0))]), ((.ofNat 1), [(19, (.negSucc 0)), (22, (.negSucc 0)), (35, (.negSucc 0)), (36, (.negSucc 0))])], [qvK (.ofNat 3), qvR 0], [zc297, qiC 0 [qgS 10, qgS 11, qgS 12, qgS 13, qgS 14, qgS 15, qgS 16, qgS 17, qgA 5, qgN 1 0 3, qgS 18, qgA 2, qgN 1 1 1000, qgN 1 0 50, qgA 23, qgS 19, qgA 39, qgS 35, qgA 39, qgS 36, qgA 39, qgS 22, qgA 517, qgN 12 0 60, qgN 1 0 5, qgN 1 0 39, qgN 1 0 40, qgN 1 0 5, qgN 1 0 39, qgN 1 0 40, qgN 1 0 5, qgN 1 0 39, qgN 1 0 40, qgN 1 0 5, qgN 1 0 39, qgN 1 0 40, qgN 1 0 5, qgN 1 0 39, qgN 1 0 40, qgN 1 0 5, qgN 1 0 39, qgN 1 0 40, qgN 1 0 5, qgN 1 0 39, qgN 1 0 40, qgN 1 0 5, qgN 1 0 39, qgN 1 0 40, qgA 76, qgA 2, qgN 1 0 5, qgA 2, qgA 2, qgN 1 0 5, qgA 2, qgA 2, qgN 1 0 5, qgA 2, qgA 2, qgN 1 0 5, qgA 2, qgA 2, qgN 1 0 5, qgA 2, qgA 2, qgN 1 0 5, qgA 2, qgA 2, qgN 1 0 5, qgA 2, qgA 2, qgN 1 0 5, qgA 2, qgN 60 0 127, qgA 18], qkC 100 23, qkC 103 24, qkC 100 25, qkC 100 26, qkC 100 27, qjC 1 70, qjC 1 8, qkC 100 28, qkC 100 29, qkC 100 30, qkC 100 31, qkC 100 32, qjC 1 4], [(1, [1], []), (2, [1], [])]), symsL 33 0, some ((.ofNat 10), []), 0, 0)
noncomputable def c183_0_p17 : PE := (122, [1, 0, 2], (40, (zt123 [qtN 33 0 1, qtN 34 0 8, qtA 35, qtN 36 0 1, qtN 37 0 1, qtN 38 0 1, qtN 39 0 1]), [((.ofNat 1), [(19, (.negSucc 0)), (20, (.negSucc 0)), (21, (.negSucc 0)), (22, (.negSucc 0))]), ((.ofNat 1), [(36, (.negSucc 0)), (37, (.negSucc 0)), (38, (.negSucc 0)), (39, (.negSucc 0))])], [qvK (.ofNat 4), qvR 0, qvS 33], [zc299, qiC 0 [qgS 10, qgS 11, qgS 12, qgS 13, qgS 14, qgS 15, qgS 16, qgS 17, qgA 5, qgN 1 0 3, qgS 18, qgA 2, qgN 1 1 1000, qgN 1 0 50, qgA 23, qgS 36, qgA 39, qgS 37, qgA 39, qgS 38, qgA 39, qgS 39, qgA 517, qgN 12 0 60, qgN 1 0 5, qgN 1 0 39, qgN 1 0 40, qgN 1 0 5, qgN 1 0 39, qgN 1 0 40, qgN 1 0 5, qgN 1 0 39, qgN 1 0 40, qgN 1 0 5, qgN 1 0 39, qgN 1 0 40, qgN 1 0 5, qgN 1 0 39, qgN 1 0 40, qgN 1 0 5, qgN 1 0 39, qgN 1 0 40, qgN 1 0 5, qgN 1 0 39, qgN 1 0 40, qgN 1 0 5, qgN 1 0 39, qgN 1 0 40, qgA 76, qgA 2, qgN 1 0 5, qgA 2, qgA 2, qgN 1 0 5, qgA 2, qgA 2, qgN 1 0 5, qgA 2, qgA 2, qgN 1 0 5, qgA 2, qgA 2, qgN 1 0 5, qgA 2, qgA 2, qgN 1 0 5, qgA 2, qgA 2, qgN 1 0 5, qgA 2, qgA 2, qgN 1 0 5, qgA 2, qgN 60 0 127, qgA 18], qkC 100 23, qkC 103 24, qkC 100 25, qkC 100 26, qkC 100 27, qjC 1 70, qjC 1 8, qkC 100 28, qkC 100 29, qkC 100 30, qkC 100 31, qkC 100 32, qjC 1 4], [(1, [1], []), (2, [1], [])]), symsL 33 0, some ((.ofNat 9), []), 0, 0)
noncomputable def c183_0_pts : List PE := [c183_0_p0, c183_0_p1, c183_0_p2, c183_0_p3, c183_0_p4, c183_0_p5, c183_0_p6, c183_0_p7, c183_0_p8, c183_0_p9, c183_0_p10, c183_0_p11, c183_0_p12, c183_0_p13, c183_0_p14, c183_0_p15, c183_0_p16, c183_0_p17]
set_option maxRecDepth 100000 in
theorem c183_0_k : enCtF c183_0 c183_0_e (pkP (c183_0_pts ++ []) [0]) (none) (noF, noM, 5316911983139663491615228241658250240, 0, 33) 3000 = true := by decide +kernel
set_option maxRecDepth 100000 in
theorem c183_0_k0 : ptCtF c183_0 c183_0_e (pkP (c183_0_pts ++ []) [1, 0]) (noF, noM, 5316911983139663491615228241658250240, 0, 33) 3000 c183_0_p0 = true := by decide +kernel
set_option maxRecDepth 100000 in
theorem c183_0_k1 : ptCtF c183_0 c183_0_e (pkP (c183_0_pts ++ []) [3, 2]) (noF, noM, 5316911983139663491615228241658250240, 0, 33) 3000 c183_0_p1 = true := by decide +kernel
set_option maxRecDepth 100000 in
theorem c183_0_k2 : ptCtF c183_0 c183_0_e (pkP (c183_0_pts ++ []) [9, 4]) (noF, noM, 5316911983139663491615228241658250240, 0, 33) 3000 c183_0_p2 = true := by decide +kernel
set_option maxRecDepth 100000 in
theorem c183_0_k3 : ptCtF c183_0 c183_0_e (pkP (c183_0_pts ++ []) [10, 5, 4]) (noF, noM, 5316911983139663491615228241658250240, 0, 33) 3000 c183_0_p3 = true := by decide +kernel
set_option maxRecDepth 100000 in
theorem c183_0_k4 : ptCtF c183_0 c183_0_e (pkP (c183_0_pts ++ []) [9, 6]) (noF, noM, 5316911983139663491615228241658250240, 0, 33) 3000 c183_0_p4 = true := by decide +kernel
set_option maxRecDepth 100000 in
theorem c183_0_k5 : ptCtF c183_0 c183_0_e (pkP (c183_0_pts ++ []) [10, 7, 6]) (noF, noM, 5316911983139663491615228241658250240, 0, 33) 3000 c183_0_p5 = true := by decide +kernel
set_option maxRecDepth 100000 in
theorem c183_0_k6 : ptCtF c183_0 c183_0_e (pkP (c183_0_pts ++ []) [9, 8]) (noF, noM, 5316911983139663491615228241658250240, 0, 33) 3000 c183_0_p6 = true := by decide +kernel
set_option maxRecDepth 100000 in
theorem c183_0_k7 : ptCtF c183_0 c183_0_e (pkP (c183_0_pts ++ []) [10, 8]) (noF, noM, 5316911983139663491615228241658250240, 0, 33) 3000 c183_0_p7 = true := by decide +kernel
set_option maxRecDepth 100000 in
theorem c183_0_k8 : ptCtF c183_0 c183_0_e (pkP (c183_0_pts ++ []) [9]) (noF, noM, 5316911983139663491615228241658250240, 0, 33) 3000 c183_0_p8 = true := by decide +kernel
set_option maxRecDepth 100000 in
theorem c183_0_k9 : ptCtF c183_0 c183_0_e (pkP (c183_0_pts ++ []) [11]) (noF, noM, 5316911983139663491615228241658250240, 0, 33) 3000 c183_0_p9 = true := by decide +kernel
set_option maxRecDepth 100000 in
theorem c183_0_k10 : ptCtF c183_0 c183_0_e (pkP (c183_0_pts ++ []) [12]) (noF, noM, 5316911983139663491615228241658250240, 0, 33) 3000 c183_0_p10 = true := by decide +kernel
set_option maxRecDepth 100000 in
theorem c183_0_k11 : ptCtF c183_0 c183_0_e (pkP (c183_0_pts ++ []) [13]) (noF, noM, 5316911983139663491615228241658250240, 0, 33) 3000 c183_0_p11 = true := by decide +kernel
set_option maxRecDepth 100000 in
theorem c183_0_k12 : ptCtF c183_0 c183_0_e (pkP (c183_0_pts ++ []) [14]) (noF, noM, 5316911983139663491615228241658250240, 0, 33) 3000 c183_0_p12 = true := by decide +kernel
set_option maxRecDepth 100000 in
theorem c183_0_k13 : ptCtF c183_0 c183_0_e (pkP (c183_0_pts ++ []) [15]) (noF, noM, 5316911983139663491615228241658250240, 0, 33) 3000 c183_0_p13 = true := by decide +kernel
set_option maxRecDepth 100000 in
theorem c183_0_k14 : ptCtF c183_0 c183_0_e (pkP (c183_0_pts ++ []) [16]) (noF, noM, 5316911983139663491615228241658250240, 0, 33) 3000 c183_0_p14 = true := by decide +kernel
set_option maxRecDepth 100000 in
theorem c183_0_k15 : ptCtF c183_0 c183_0_e (pkP (c183_0_pts ++ []) [17]) (noF, noM, 5316911983139663491615228241658250240, 0, 33) 3000 c183_0_p15 = true := by decide +kernel
set_option maxRecDepth 100000 in
theorem c183_0_k16 : ptCtF c183_0 c183_0_e (pkP (c183_0_pts ++ []) []) (noF, noM, 5316911983139663491615228241658250240, 0, 33) 3000 c183_0_p16 = true := by decide +kernel
set_option maxRecDepth 100000 in
theorem c183_0_k17 : ptCtF c183_0 c183_0_e (pkP (c183_0_pts ++ []) []) (noF, noM, 5316911983139663491615228241658250240, 0, 33) 3000 c183_0_p17 = true := by decide +kernel
set_option maxRecDepth 100000 in
theorem c183_0_v : ValidC PPk c183_0 := ct_ok fpk ⟨noF_ok, noM_ok⟩ (d := 4) (ext := []) (pts := c183_0_pts) (env := c183_0_e) rfl (List.forall_mem_cons.mpr ⟨⟨c175_0_v, Nat.le_of_ble_eq_true rfl⟩, List.forall_mem_cons.mpr ⟨⟨c175_1_v, Nat.le_of_ble_eq_true rfl⟩, List.forall_mem_cons.mpr ⟨⟨c175_2_v, Nat.le_of_ble_eq_true rfl⟩, List.forall_mem_cons.mpr ⟨⟨c175_3_v, Nat.le_of_ble_eq_true rfl⟩, List.forall_mem_cons.mpr ⟨⟨c175_11_v, Nat.le_of_ble_eq_true rfl⟩, List.forall_mem_cons.mpr ⟨⟨c175_12_v, Nat.le_of_ble_eq_true rfl⟩, List.forall_mem_cons.mpr ⟨⟨c184_0_v, Nat.le_of_ble_eq_true rfl⟩, List.forall_mem_cons.mpr ⟨⟨c187_0_v, Nat.le_of_ble_eq_true rfl⟩, List.forall_mem_cons.mpr ⟨⟨c188_0_v, Nat.le_of_ble_eq_true rfl⟩, fun _ h => (by cases h)⟩⟩⟩⟩⟩⟩⟩⟩⟩) ext_nil (fun q h => (by cases h)) (enF c183_0_k) (List.forall_mem_cons.mpr ⟨⟨_, ptF c183_0_k0⟩, List.forall_mem_cons.mpr ⟨⟨_, ptF c183_0_k1⟩, List.forall_mem_cons.mpr ⟨⟨_, ptF c183_0_k2⟩, List.forall_mem_cons.mpr ⟨⟨_, ptF c183_0_k3⟩, List.forall_mem_cons.mpr ⟨⟨_, ptF c183_0_k4⟩, List.forall_mem_cons.mpr ⟨⟨_, ptF c183_0_k5⟩, List.forall_mem_cons.mpr ⟨⟨_, ptF c183_0_k6⟩, List.forall_mem_cons.mpr ⟨⟨_, ptF c183_0_k7⟩, List.forall_mem_cons.mpr ⟨⟨_, ptF c183_0_k8⟩, List.forall_mem_cons.mpr ⟨⟨_, ptF c183_0_k9⟩, List.forall_mem_cons.mpr ⟨⟨_, ptF c183_0_k10⟩, List.forall_mem_cons.mpr ⟨⟨_, ptF c183_0_k11⟩, List.forall_mem_cons.mpr ⟨⟨_, ptF c183_0_k12⟩, List.forall_mem_cons.mpr ⟨⟨_, ptF c183_0_k13⟩, List.forall_mem_cons.mpr ⟨⟨_, ptF c183_0_k14⟩, List.forall_mem_cons.mpr ⟨⟨_, ptF c183_0_k15⟩, List.forall_mem_cons.mpr ⟨⟨_, ptF c183_0_k16⟩, List.forall_mem_cons.mpr ⟨⟨_, ptF c183_0_k17⟩, fun _ h => (by cases h)⟩⟩⟩⟩⟩⟩⟩⟩⟩⟩⟩⟩⟩⟩⟩⟩⟩⟩)

noncomputable def c190_0 : Ct := (190, 1, (3, [(0, (.negSucc 9223372036854775807), (.ofNat 9223372036854775807)), (1, (.negSucc 9223372036854775807), (.ofNat 9223372036854775807)), (2, (.negSucc 9223372036854775807), (.ofNat 9223372036854775807))], [], [.inl (true, (sL 0)), .inl (true, (sL 1)), .inl (true, (sL 2))], [], []),
  [((3, [], [((.ofNat 0), [(0, (.ofNat 1)), (2, (.negSucc 0))]), ((.ofNat 0), [(0, (.negSucc 0)), (1, (.ofNat 1))])], [.inl (true, (sL 0))], [], []), 0, 0),
   ((3, [(0, (.negSucc 9223372036854775806), (.ofNat 9223372036854775807)), (2, (.negSucc 9223372036854775807), (.ofNat 9223372036854775806))], [((.ofNat 1), [(0, (.negSucc 0)), (2, (.ofNat 1))]), ((.ofNat 0), [(0, (.negSucc 0)), (1, (.ofNat 1))])], [.inl (true, (sL 2))], [], []), 0, 0),
   ((3, [(0, (.negSucc 9223372036854775807), (.ofNat 9223372036854775806)), (1, (.negSucc 9223372036854775806), (.ofNat 9223372036854775807))], [((.ofNat 1), [(0, (.ofNat 1)), (1, (.negSucc 0))])], [.inl (true, (sL 1))], [], []), 0, 0)])
noncomputable def c190_0_e : List Ct := []
noncomputable def c190_0_pts : List PE := []
set_option maxRecDepth 100000 in
theorem c190_0_k : enCtF c190_0 c190_0_e (pkP (c190_0_pts ++ []) []) (none) noH 3000 = true := by decide +kernel
set_option maxRecDepth 100000 in
theorem c190_0_v : ValidC PPk c190_0 := ct_ok fpk noH_ok (d := 0) (ext := []) (pts := c190_0_pts) (env := c190_0_e) rfl (fun _ h => (by cases h)) ext_nil (fun q h => (by cases h)) (enF c190_0_k) (fun _ h => (by cases h))

noncomputable def c189_0 : Ct := (189, 2, (33, (zt2 []), [((.ofNat 1), [(19, (.negSucc 0)), (20, (.negSucc 0)), (21, (.negSucc 0)), (22, (.negSucc 0))])], [qvR 0], zh48, [(1, [1], []), (2, [1], [])]),
  [((33, [], [], [], zh48, [(1, [1], []), (2, [1], [])]), 0, 0)])
noncomputable def c189_0_e : List Ct := [c190_0]
noncomputable def c189_0_pts : List PE := []
set_option maxRecDepth 100000 in
theorem c189_0_k : enCtF c189_0 c189_0_e (pkP (c189_0_pts ++ []) []) (none) noH 3000 = true := by decide +kernel
set_option maxRecDepth 100000 in
theorem c189_0_v : ValidC PPk c189_0 := ct_ok fpk noH_ok (d := 1) (ext := []) (pts := c189_0_pts) (env := c189_0_e) rfl (List.forall_mem_cons.mpr ⟨⟨c190_0_v, Nat.le_of_ble_eq_true rfl⟩, fun _ h => (by cases h)⟩) ext_nil (fun q h => (by cases h)) (enF c189_0_k) (fun _ h => (by cases h))

noncomputable def zt125 (r : TbL) : TbL := qtN 0 0 69 :: qtN 1 0 69 :: qtN 2 0 8 :: qtA 3 :: qtA 4 :: qtA 5 :: qtA 6 :: qtA 7 :: qtA 8 :: qtA 9 :: qtN 10 1 4 :: qtN 11 0 60 :: qtN 12 0 8 :: qtN 13 0 6 :: qtN 14 0 8 :: qtN 15 0 60 :: qtN 16 0 60 :: qtN 17 0 10 :: qtA 18 :: qtN 19 0 0 :: qtN 20 1 1 :: qtN 21 0 1 :: qtN 22 0 1 :: r
noncomputable def zt126 (r : TbL) : TbL := qtN 0 0 69 :: qtN 1 0 69 :: qtN 2 0 8 :: qtA 3 :: qtA 4 :: qtA 5 :: qtA 6 :: qtA 7 :: qtA 8 :: qtA 9 :: qtN 10 1 4 :: qtN 11 0 60 :: qtN 12 0 8 :: qtN 13 0 6 :: qtN 14 0 8 :: qtN 15 0 60 :: qtN 16 0 60 :: qtN 17 0 10 :: qtA 18 :: qtN 19 0 0 :: qtN 20 0 0 :: qtN 21 1 1 :: qtN 22 0 1 :: r
noncomputable def zt127 (r : TbL) : TbL := qtN 0 0 69 :: qtN 1 0 69 :: qtN 2 0 8 :: qtA 3 :: qtA 4 :: qtA 5 :: qtA 6 :: qtA 7 :: qtA 8 :: qtA 9 :: qtN 10 1 4 :: qtN 11 0 60 :: qtN 12 0 8 :: qtN 13 0 6 :: qtN 14 0 8 :: qtN 15 0 60 :: qtN 16 0 60 :: qtN 17 0 10 :: qtA 18 :: qtN 19 0 0 :: qtN 20 0 0 :: qtN 21 0 0 :: qtN 22 1 1 :: r
noncomputable def c191_0 : Ct := (191, 2, (34, (zt2 [qtN 33 0 3]), [((.ofNat 1), [(19, (.negSucc 0)), (20, (.negSucc 0)), (21, (.negSucc 0)), (22, (.negSucc 0))])], [qvR 0, qvS 33], zh48, [(1, [1], []), (2, [1], [])]),
  [((38, [qtN 34 0 1, qtN 35 0 1, qtN 36 0 1, qtN 37 0 1], [((.ofNat 1), [(34, (.negSucc 0)), (35, (.negSucc 0)), (36, (.negSucc 0)), (37, (.negSucc 0))])], [], [zc46, qiC 0 [qgS 10, qgS 11, qgS 12, qgS 13, qgS 14, qgS 15, qgS 16, qgS 17, qgA 5, qgN 1 0 3, qgS 18, qgA 2, qgN 1 1 1000, qgN 1 0 50, qgA 23, qgS 34, qgA 39, qgS 35, qgA 39, qgS 36, qgA 39, qgS 37, qgA 517, qgN 12 0 60, qgN 1 0 5, qgN 1 0 39, qgN 1 0 40, qgN 1 0 5, qgN 1 0 39, qgN 1 0 40, qgN 1 0 5, qgN 1 0 39, qgN 1 0 40, qgN 1 0 5, qgN 1 0 39, qgN 1 0 40, qgN 1 0 5, qgN 1 0 39, qgN 1 0 40, qgN 1 0 5, qgN 1 0 39, qgN 1 0 40, qgN 1 0 5, qgN 1 0 39, qgN 1 0 40, qgN 1 0 5, qgN 1 0 39, qgN 1 0 40, qgA 76, qgA 2, qgN 1 0 5, qgA 2, qgA 2, qgN 1 0 5, qgA 2, qgA 2, qgN 1 0 5, qgA 2, qgA 2, qgN 1 0 5, qgA 2, qgA 2, qgN 1 0 5, qgA 2, qgA 2, qgN 1 0 5, qgA 2, qgA 2, qgN 1 0 5, qgA 2, qgA 2, qgN 1 0 5, qgA 2, qgN 60 0 127, qgA 18], qkC 100 23, qkC 103 24, qkC 100 25, qkC 100 26, qkC 100 27, qjC 1 70, qjC 1 8, qkC 100 28, qkC 100 29, qkC 100 30, qkC 100 31, qkC 100 32, qjC 1 4], [(1, [1], []), (2, [1], [])]), 0, 0)])
noncomputable def c191_0_e : List Ct := [c175_0, c175_1, c175_2, c175_3, c175_11, c175_12]
noncomputable def c191_0_p0 : PE := (61, [1, 3, 0, 2, 4], (35, (zt117 [qtN 33 0 0, qtN 34 0 12]), [((.ofNat 1), [(19, (.negSucc 0)), (20, (.negSucc 0)), (21, (.negSucc 0)), (22, (.negSucc 0))])], [qvS 33, qvK (.ofNat 0), qvR 0, .inl (false, ((.ofNat 30), [(33, (.ofNat 40))])), qvS 34], zh48, [(1, [1], []), (2, [1], [])]), symsL 34 0, some ((.ofNat 25), [(34, (.negSucc 0))]), 0, 0)
noncomputable def c191_0_p1 : PE := (61, [1, 3, 0, 2, 4], (35, (zt125 [qtN 33 0 0, qtN 34 0 12]), [((.ofNat 1), [(19, (.negSucc 0)), (20, (.negSucc 0)), (21, (.negSucc 0)), (22, (.negSucc 0))])], [qvS 33, qvK (.ofNat 1), qvR 0, .inl (false, ((.ofNat 30), [(33, (.ofNat 40))])), qvS 34], zh48, [(1, [1], []), (2, [1], [])]), symsL 34 0, some ((.ofNat 25), [(34, (.negSucc 0))]), 0, 0)
noncomputable def c191_0_p2 : PE := (61, [1, 3, 0, 2, 4], (35, (zt126 [qtN 33 0 0, qtN 34 0 12]), [((.ofNat 1), [(19, (.negSucc 0)), (20, (.negSucc 0)), (21, (.negSucc 0)), (22, (.negSucc 0))])], [qvS 33, qvK (.ofNat 2), qvR 0, .inl (false, ((.ofNat 30), [(33, (.ofNat 40))])), qvS 34], zh48, [(1, [1], []), (2, [1], [])]), symsL 34 0, some ((.ofNat 25), [(34, (.negSucc 0))]), 0, 0)
noncomputable def c191_0_p3 : PE := (61, [1, 3, 0, 2, 4], (35, (zt127 [qtN 33 0 0, qtN 34 0 12]), [((.ofNat 1), [(19, (.negSucc 0)), (20, (.negSucc 0)), (21, (.negSucc 0)), (22, (.negSucc 0))])], [qvS 33, qvK (.ofNat 3), qvR 0, .inl (false, ((.ofNat 30), [(33, (.ofNat 40))])), qvS 34], zh48, [(1, [1], []), (2, [1], [])]), symsL 34 0, some ((.ofNat 25), [(34, (.negSucc 0))]), 0, 0)
noncomputable def c191_0_p4 : PE := (61, [1, 3, 0, 2, 4], (35, (zt117 [qtN 33 1 1, qtN 34 0 12]), [((.ofNat 1), [(19, (.negSucc 0)), (20, (.negSucc 0)), (21, (.negSucc 0)), (22, (.negSucc 0))])], [qvS 33, qvK (.ofNat 0), qvR 0, .inl (false, ((.ofNat 30), [(33, (.ofNat 40))])), qvS 34], zh48, [(1, [1], []), (2, [1], [])]), symsL 34 0, some ((.ofNat 25), [(34, (.negSucc 0))]), 0, 0)
noncomputable def c191_0_p5 : PE := (61, [1, 3, 0, 2, 4], (35, (zt125 [qtN 33 1 1, qtN 34 0 12]), [((.ofNat 1), [(19, (.negSucc 0)), (20, (.negSucc 0)), (21, (.negSucc 0)), (22, (.negSucc 0))])], [qvS 33, qvK (.ofNat 1), qvR 0, .inl (false, ((.ofNat 30), [(33, (.ofNat 40))])), qvS 34], zh48, [(1, [1], []), (2, [1], [])]), symsL 34 0, some ((.ofNat 25), [(34, (.negSucc 0))]), 0, 0)
noncomputable def c191_0_p6 : PE := (61, [1, 3, 0, 2, 4], (35, (zt126 [qtN 33 1 1, qtN 34 0 12]), [((.ofNat 1), [(19, (.negSucc 0)), (20, (.negSucc 0)), (21, (.negSucc 0)), (22, (.negSucc 0))])], [qvS 33, qvK (.ofNat 2), qvR 0, .inl (false, ((.ofNat 30), [(33, (.ofNat 40))])), qvS 34], zh48, [(1, [1], []), (2, [1], [])]), symsL 34 0, some ((.ofNat 25), [(34, (.negSucc 0))]), 0, 0)
noncomputable def c191_0_p7 : PE := (61, [1, 3, 0, 2, 4], (35, (zt127 [qtN 33 1 1, qtN 34 0 12]), [((.ofNat 1), [(19, (.negSucc 0)), (20, (.negSucc 0)), (21, (.negSucc 0)), (22, (.negSucc 0))])], [qvS 33, qvK (.ofNat 3), qvR 0, .inl (false, ((.ofNat 30), [(33, (.ofNat 40))])), qvS 34], zh48, [(1, [1], []), (2, [1], [])]), symsL 34 0, some ((.ofNat 25), [(34, (.negSucc 0))]), 0, 0)
noncomputable def c191_0_p8 : PE := (61, [1, 3, 0, 2, 4], (35, (zt117 [qtN 33 2 2, qtN 34 0 12]), [((.ofNat 1), [(19, (.negSucc 0)), (20, (.negSucc 0)), (21, (.negSucc 0)), (22, (.negSucc 0))])], [qvS 33, qvK (.ofNat 0), qvR 0, .inl (false, ((.ofNat 30), [(33, (.ofNat 40))])), qvS 34], zh48, [(1, [1], []), (2, [1], [])]), symsL 34 0, some ((.ofNat 25), [(34, (.negSucc 0))]), 0, 0)
noncomputable def c191_0_p9 : PE := (61, [1, 3, 0, 2, 4], (35, (zt125 [qtN 33 2 2, qtN 34 0 12]), [((.ofNat 1), [(19, (.negSucc 0)), (20, (.negSucc 0)), (21, (.negSucc 0)), (22, (.negSucc 0))])], [qvS 33, qvK (.ofNat 1), qvR 0, .inl (false, ((.ofNat 30), [(33, (.ofNat 40))])), qvS 34], zh48, [(1, [1], []), (2, [1], [])]), symsL 34 0, some ((.ofNat 25), [(34, (.negSucc 0))]), 0, 0)
noncomputable def c191_0_p10 : PE := (61, [1, 3, 0, 2, 4], (35, (zt126 [qtN 33 2 2, qtN 34 0 12]), [((.ofNat 1), [(19, (.negSucc 0)), (20, (.negSucc 0)), (21, (.negSucc 0)), (22, (.negSucc 0))])], [qvS 33, qvK (.ofNat 2), qvR 0, .inl (false, ((.ofNat 30), [(33, (.ofNat 40))])), qvS 34], zh48, [(1, [1], []), (2, [1], [])]), symsL 34 0, some ((.ofNat 25), [(34, (.negSucc 0))]), 0, 0)
noncomputable def c191_0_p11 : PE := (61, [1, 3, 0, 2, 4], (35, (zt127 [qtN 33 2 2, qtN 34 0 12]), [((.ofNat 1), [(19, (.negSucc 0)), (20, (.negSucc 0)), (21, (.negSucc 0)), (22, (.negSucc 0))])], [qvS 33, qvK (.ofNat 3), qvR 0, .inl (false, ((.ofNat 30), [(33, (.ofNat 40))])), qvS 34], zh48, [(1, [1], []), (2, [1], [])]), symsL 34 0, some ((.ofNat 25), [(34, (.negSucc 0))]), 0, 0)
noncomputable def c191_0_p12 : PE := (61, [1, 3, 0, 2, 4], (35, (zt117 [qtN 33 3 3, qtN 34 0 12]), [((.ofNat 1), [(19, (.negSucc 0)), (20, (.negSucc 0)), (21, (.negSucc 0)), (22, (.negSucc 0))])], [qvS 33, qvK (.ofNat 0), qvR 0, .inl (false, ((.ofNat 30), [(33, (.ofNat 40))])), qvS 34], zh48, [(1, [1], []), (2, [1], [])]), symsL 34 0, some ((.ofNat 25), [(34, (.negSucc 0))]), 0, 0)
noncomputable def c191_0_p13 : PE := (61, [1, 3, 0, 2, 4], (35, (zt125 [qtN 33 3 3, qtN 34 0 12]), [((.ofNat 1), [(19, (.negSucc 0)), (20, (.negSucc 0)), (21, (.negSucc 0)), (22, (.negSucc 0))])], [qvS 33, qvK (.ofNat 1), qvR 0, .inl (false, ((.ofNat 30), [(33, (.ofNat 40))])), qvS 34], zh48, [(1, [1], []), (2, [1], [])]), symsL 34 0, some ((.ofNat 25), [(34, (.negSucc 0))]), 0, 0)
noncomputable def c191_0_p14 : PE := (61, [1, 3, 0, 2, 4], (35, (zt126 [qtN 33 3 3, qtN 34 0 12]), [((.ofNat 1), [(19, (.negSucc 0)), (20, (.negSucc 0)), (21, (.negSucc 0)), (22, (.negSucc 0))])], [qvS 33, qvK (.ofNat 2), qvR 0, .inl (false, ((.ofNat 30), [(33, (.ofNat 40))])), qvS 34], zh48, [(1, [1], []), (2, [1], [])]), symsL 34 0, some ((.ofNat 25), [(34, (.negSucc 0))]), 0, 0)
noncomputable def c191_0_p15 : PE := (61, [1, 3, 0, 2, 4], (35, (zt127 [qtN 33 3 3, qtN 34 0 12]), [((.ofNat 1), [(19, (.negSucc 0)), (20, (.negSucc 0)), (21, (.negSucc 0)), (22, (.negSucc 0))])], [qvS 33, qvK (.ofNat 3), qvR 0, .inl (false, ((.ofNat 30), [(33, (.ofNat 40))])), qvS 34], zh48, [(1, [1], []), (2, [1], [])]), symsL 34 0, some ((.ofNat 25), [(34, (.negSucc 0))]), 0, 0)
noncomputable def c191_0_pts : List PE := [c191_0_p0, c191_0_p1, c191_0_p2, c191_0_p3, c191_0_p4, c191_0_p5, c191_0_p6, c191_0_p7, c191_0_p8, c191_0_p9, c191_0_p10, c191_0_p11, c191_0_p12, c191_0_p13, c191_0_p14, c191_0_p15]
set_option maxRecDepth 100000 in
theorem c191_0_k : enCtF c191_0 c191_0_e (pkP (c191_0_pts ++ []) [0, 1, 2, 3, 4, 5, 6, 7, 8, 9, 10, 11, 12, 13, 14, 15]) (none) ((hSplit 0 1 ), noM, 2305843009213693952, 1, 34) 3000 = true := by decide +kernel
set_option maxRecDepth 100000 in
theorem c191_0_k0 : ptCtF c191_0 c191_0_e (pkP (c191_0_pts ++ []) [0]) ((hSplit 0 1 ), noM, 2305843009213693952, 1, 34) 3000 c191_0_p0 = true := by decide +kernel
set_option maxRecDepth 100000 in
theorem c191_0_k1 : ptCtF c191_0 c191_0_e (pkP (c191_0_pts ++ []) [1]) ((hSplit 0 1 ), noM, 2305843009213693952, 1, 34) 3000 c191_0_p1 = true := by decide +kernel
set_option maxRecDepth 100000 in
theorem c191_0_k2 : ptCtF c191_0 c191_0_e (pkP (c191_0_pts ++ []) [2]) ((hSplit 0 1 ), noM, 2305843009213693952, 1, 34) 3000 c191_0_p2 = true := by decide +kernel
set_option maxRecDepth 100000 in
theorem c191_0_k3 : ptCtF c191_0 c191_0_e (pkP (c191_0_pts ++ []) [3]) ((hSplit 0 1 ), noM, 2305843009213693952, 1, 34) 3000 c191_0_p3 = true := by decide +kernel
set_option maxRecDepth 100000 in
theorem c191_0_k4 : ptCtF c191_0 c191_0_e (pkP (c191_0_pts ++ []) [4]) ((hSplit 0 1 ), noM, 2305843009213693952, 1, 34) 3000 c191_0_p4 = true := by decide +kernel
set_option maxRecDepth 100000 in
theorem c191_0_k5 : ptCtF c191_0 c191_0_e (pkP (c191_0_pts ++ []) [5]) ((hSplit 0 1 ), noM, 2305843009213693952, 1, 34) 3000 c191_0_p5 = true := by decide +kernel
set_option maxRecDepth 100000 in
theorem c191_0_k6 : ptCtF c191_0 c191_0_e (pkP (c191_0_pts ++ []) [6]) ((hSplit 0 1 ), noM, 2305843009213693952, 1, 34) 3000 c191_0_p6 = true := by decide +kernel
set_option maxRecDepth 100000 in
theorem c191_0_k7 : ptCtF c191_0 c191_0_e (pkP (c191_0_pts ++ []) [7]) ((hSplit 0 1 ), noM, 2305843009213693952, 1, 34) 3000 c191_0_p7 = true := by decide +kernel
set_option maxRecDepth 100000 in
theorem c191_0_k8 : ptCtF c191_0 c191_0_e (pkP (c191_0_pts ++ []) [8]) ((hSplit 0 1 ), noM, 2305843009213693952, 1, 34) 3000 c191_0_p8 = true := by decide +kernel
set_option maxRecDepth 100000 in
theorem c191_0_k9 : ptCtF c191_0 c191_0_e (pkP (c191_0_pts ++ []) [9]) ((hSplit 0 1 ), noM, 2305843009213693952, 1, 34) 3000 c191_0_p9 = true := by decide +kernel
set_option maxRecDepth 100000 in
theorem c191_0_k10 : ptCtF c191_0 c191_0_e (pkP (c191_0_pts ++ []) [10]) ((hSplit 0 1 ), noM, 2305843009213693952, 1, 34) 3000 c191_0_p10 = true := by decide +kernel
set_option maxRecDepth 100000 in
theorem c191_0_k11 : ptCtF c191_0 c191_0_e (pkP (c191_0_pts ++ []) [11]) ((hSplit 0 1 ), noM, 2305843009213693952, 1, 34) 3000 c191_0_p11 = true := by decide +kernel
set_option maxRecDepth 100000 in
theorem c191_0_k12 : ptCtF c191_0 c191_0_e (pkP (c191_0_pts ++ []) [12]) ((hSplit 0 1 ), noM, 2305843009213693952, 1, 34) 3000 c191_0_p12 = true := by decide +kernel
set_option maxRecDepth 100000 in
theorem c191_0_k13 : ptCtF c191_0 c191_0_e (pkP (c191_0_pts ++ []) [13]) ((hSplit 0 1 ), noM, 2305843009213693952, 1, 34) 3000 c191_0_p13 = true := by decide +kernel
set_option maxRecDepth 100000 in
theorem c191_0_k14 : ptCtF c191_0 c191_0_e (pkP (c191_0_pts ++ []) [14]) ((hSplit 0 1 ), noM, 2305843009213693952, 1, 34) 3000 c191_0_p14 = true := by decide +kernel
set_option maxRecDepth 100000 in
theorem c191_0_k15 : ptCtF c191_0 c191_0_e (pkP (c191_0_pts ++ []) [15]) ((hSplit 0 1 ), noM, 2305843009213693952, 1, 34) 3000 c191_0_p15 = true := by decide +kernel
set_option maxRecDepth 100000 in
theorem c191_0_v : ValidC PPk c191_0 := ct_ok fpk ⟨(hSplit_ok 0 1 ), noM_ok⟩ (d := 1) (ext := []) (pts := c191_0_pts) (env := c191_0_e) rfl (List.forall_mem_cons.mpr ⟨⟨c175_0_v, Nat.le_of_ble_eq_true rfl⟩, List.forall_mem_cons.mpr ⟨⟨c175_1_v, Nat.le_of_ble_eq_true rfl⟩, List.forall_mem_cons.mpr ⟨⟨c175_2_v, Nat.le_of_ble_eq_true rfl⟩, List.forall_mem_cons.mpr ⟨⟨c175_3_v, Nat.le_of_ble_eq_true rfl⟩, List.forall_mem_cons.mpr ⟨⟨c175_11_v, Nat.le_of_ble_eq_true rfl⟩, List.forall_mem_cons.mpr ⟨⟨c175_12_v, Nat.le_of_ble_eq_true rfl⟩, fun _ h => (by cases h)⟩⟩⟩⟩⟩⟩) ext_nil (fun q h => (by cases h)) (enF c191_0_k) (List.forall_mem_cons.mpr ⟨⟨_, ptF c191_0_k0⟩, List.forall_mem_cons.mpr ⟨⟨_, ptF c191_0_k1⟩, List.forall_mem_cons.mpr ⟨⟨_, ptF c191_0_k2⟩, List.forall_mem_cons.mpr ⟨⟨_, ptF c191_0_k3⟩, List.forall_mem_cons.mpr ⟨⟨_, ptF c191_0_k4⟩, List.forall_mem_cons.mpr ⟨⟨_, ptF c191_0_k5⟩, List.forall_mem_cons.mpr ⟨⟨_, ptF c191_0_k6⟩, List.forall_mem_cons.mpr ⟨⟨_, ptF c191_0_k7⟩, List.forall_mem_cons.mpr ⟨⟨_, ptF c191_0_k8⟩, List.forall_mem_cons.mpr ⟨⟨_, ptF c191_0_k9⟩, List.forall_mem_cons.mpr ⟨⟨_, ptF c191_0_k10⟩, List.forall_mem_cons.mpr ⟨⟨_, ptF c191_0_k11⟩, List.forall_mem_cons.mpr ⟨⟨_, ptF c191_0_k12⟩, List.forall_mem_cons.mpr ⟨⟨_, ptF c191_0_k13⟩, List.forall_mem_cons.mpr ⟨⟨_, ptF c191_0_k14⟩, List.forall_mem_cons.mpr ⟨⟨_, ptF c191_0_k15⟩, fun _ h => (by cases h)⟩⟩⟩⟩⟩⟩⟩⟩⟩⟩⟩⟩⟩⟩⟩⟩)

noncomputable def zt128 (r : TbL) : TbL := qtN 0 0 69 :: qtN 1 0 69 :: qtN 2 0 8 :: qtA 3 :: qtA 4 :: qtA 5 :: qtA 6 :: qtA 7 :: qtA 8 :: qtA 9 :: qtN 10 1 4 :: qtN 11 0 60 :: qtN 12 0 8 :: qtN 13 0 6 :: qtN 14 0 8 :: qtN 15 0 60 :: qtN 16 0 60 :: qtN 17 0 10 :: qtA 18 :: qtN 19 0 1 :: qtN 20 0 1 :: qtN 21 0 1 :: qtN 22 0 1 :: qtN 33 0 70 :: qtN 34 0 70 :: r
noncomputable def c175_13 : Ct := (175, 1, (35, (zt128 []), [((.ofNat 1), [(19, (.negSucc 0)), (20, (.negSucc 0)), (21, (.negSucc 0)), (22, (.negSucc 0))])], [qvR 0, qvK (.ofNat 0), qvK (.ofNat 12)], zh48, [(2, [1], []), (1, [1], []), (5, [6], [(sL 1), (sL 33), (sL 34)]), (4, [4], [(sL 0), ((.ofNat 1), [(34, (.ofNat 1))])])]),
  [((35, [], [], [qvS 19], zh48, [(2, [1], []), (1, [1], []), (5, [6], [(sL 1), (sL 33), (sL 34)]), (4, [4], [(sL 0), ((.ofNat 1), [(34, (.ofNat 1))])])]), 0, 0)])
noncomputable def c175_13_e : List Ct := []
noncomputable def c175_13_pts : List PE := []
set_option maxRecDepth 100000 in
theorem c175_13_k : enCtF c175_13 c175_13_e (pkP (c175_13_pts ++ []) []) (none) noH 3000 = true := by decide +kernel
set_option maxRecDepth 100000 in
theorem c175_13_v : ValidC PPk c175_13 := ct_ok fpk noH_ok (d := 0) (ext := []) (pts := c175_13_pts) (env := c175_13_e) rfl (fun _ h => (by cases h)) ext_nil (fun q h => (by cases h)) (enF c175_13_k) (fun _ h => (by cases h))

noncomputable def c175_14 : Ct := (175, 1, (35, (zt128 []), [((.ofNat 1), [(19, (.negSucc 0)), (20, (.negSucc 0)), (21, (.negSucc 0)), (22, (.negSucc 0))])], [qvR 0, qvK (.ofNat 1), qvK (.ofNat 12)], zh48, [(2, [1], []), (1, [1], []), (5, [6], [(sL 1), (sL 33), (sL 34)]), (4, [4], [(sL 0), ((.ofNat 1), [(34, (.ofNat 1))])])]),
  [((35, [], [], [qvS 20], zh48, [(2, [1], []), (1, [1], []), (5, [6], [(sL 1), (sL 33), (sL 34)]), (4, [4], [(sL 0), ((.ofNat 1), [(34, (.ofNat 1))])])]), 0, 0)])
noncomputable def c175_14_e : List Ct := []
noncomputable def c175_14_pts : List PE := []
set_option maxRecDepth 100000 in
theorem c175_14_k : enCtF c175_14 c175_14_e (pkP (c175_14_pts ++ []) []) (none) noH 3000 = true := by decide +kernel
set_option maxRecDepth 100000 in
theorem c175_14_v : ValidC PPk c175_14 := ct_ok fpk noH_ok (d := 0) (ext := []) (pts := c175_14_pts) (env := c175_14_e) rfl (fun _ h => (by cases h)) ext_nil (fun q h => (by cases h)) (enF c175_14_k) (fun _ h => (by cases h))

noncomputable def c175_15 : Ct := (175, 1, (35, (zt128 []), [((.ofNat 1), [(19, (.negSucc 0)), (20, (.negSucc 0)), (21, (.negSucc 0)), (22, (.negSucc 0))])], [qvR 0, qvK (.ofNat 2), qvK (.ofNat 12)], zh48, [(2, [1], []), (1, [1], []), (5, [6], [(sL 1), (sL 33), (sL 34)]), (4, [4], [(sL 0), ((.ofNat 1), [(34, (.ofNat 1))])])]),
  [((35, [], [], [qvS 21], zh48, [(2, [1], []), (1, [1], []), (5, [6], [(sL 1), (sL 33), (sL 34)]), (4, [4], [(sL 0), ((.ofNat 1), [(34, (.ofNat 1))])])]), 0, 0)])
noncomputable def c175_15_e : List Ct := []
noncomputable def c175_15_pts : List PE := []
set_option maxRecDepth 100000 in
theorem c175_15_k : enCtF c175_15 c175_15_e (pkP (c175_15_pts ++ []) []) (none) noH 3000 = true := by decide +kernel
set_option maxRecDepth 100000 in
theorem c175_15_v : ValidC PPk c175_15 := ct_ok fpk noH_ok (d := 0) (ext := []) (pts := c175_15_pts) (env := c175_15_e) rfl (fun _ h => (by cases h)) ext_nil (fun q h => (by cases h)) (enF c175_15_k) (fun _ h => (by cases h))

noncomputable def c175_16 : Ct := (175, 1, (35, (zt128 []), [((.ofNat 1), [(19, (.negSucc 0)), (20, (.negSucc 0)), (21, (.negSucc 0)), (22, (.negSucc 0))])], [qvR 0, qvK (.ofNat 3), qvK (.ofNat 12)], zh48, [(2, [1], []), (1, [1], []), (5, [6], [(sL 1), (sL 33), (sL 34)]), (4, [4], [(sL 0), ((.ofNat 1), [(34, (.ofNat 1))])])]),
  [((35, [], [], [qvS 22], zh48, [(2, [1], []), (1, [1], []), (5, [6], [(sL 1), (sL 33), (sL 34)]), (4, [4], [(sL 0), ((.ofNat 1), [(34, (.ofNat 1))])])]), 0, 0)])
noncomputable def c175_16_e : List Ct := []
noncomputable def c175_16_pts : List PE := []
set_option maxRecDepth 100000 in
theorem c175_16_k : enCtF c175_16 c175_16_e (pkP (c175_16_pts ++ []) []) (none) noH 3000 = true := by decide +kernel
set_option maxRecDepth 100000 in
theorem c175_16_v : ValidC PPk c175_16 := ct_ok fpk noH_ok (d := 0) (ext := []) (pts := c175_16_pts) (env := c175_16_e) rfl (fun _ h => (by cases h)) ext_nil (fun q h => (by cases h)) (enF c175_16_k) (fun _ h => (by cases h))

noncomputable def c188_1 : Ct := (188, 2, (35, (zt128 []), [((.ofNat 1), [(19, (.negSucc 0)), (20, (.negSucc 0)), (21, (.negSucc 0)), (22, (.negSucc 0))])], [qvR 0], zh48, [(2, [1], []), (1, [1], []), (5, [6], [(sL 1), (sL 33), (sL 34)]), (4, [4], [(sL 0), ((.ofNat 1), [(34, (.ofNat 1))])])]),
  [((35, [qtN 10 1 1], [], [qvS 19], zh48, [(2, [1], []), (1, [1], []), (5, [6], [(sL 1), (sL 33), (sL 34)]), (4, [4], [(sL 0), ((.ofNat 1), [(34, (.ofNat 1))])])]), 0, 0),
   ((35, [qtN 10 2 2], [], [.inl (false, ((.ofNat 0), [(19, (.ofNat 1)), (20, (.ofNat 1))]))], zh48, [(2, [1], []), (1, [1], []), (5, [6], [(sL 1), (sL 33), (sL 34)]), (4, [4], [(sL 0), ((.ofNat 1), [(34, (.ofNat 1))])])]), 0, 0),
   ((35, [qtN 10 3 3], [], [.inl (false, ((.ofNat 0), [(19, (.ofNat 1)), (20, (.ofNat 1)), (21, (.ofNat 1))]))], zh48, [(2, [1], []), (1, [1], []), (5, [6], [(sL 1), (sL 33), (sL 34)]), (4, [4], [(sL 0), ((.ofNat 1), [(34, (.ofNat 1))])])]), 0, 0),
   ((35, [qtN 10 4 4], [], [.inl (false, ((.ofNat 0), [(19, (.ofNat 1)), (20, (.ofNat 1)), (21, (.ofNat 1)), (22, (.ofNat 1))]))], zh48, [(2, [1], []), (1, [1], []), (5, [6], [(sL 1), (sL 33), (sL 34)]), (4, [4], [(sL 0), ((.ofNat 1), [(34, (.ofNat 1))])])]), 0, 0)])
noncomputable def c188_1_e : List Ct := [c175_13, c175_14, c175_15, c175_16]
noncomputable def c188_1_p0 : PE := (4, [2, 0, 1], (35, (zt128 []), [((.ofNat 1), [(19, (.negSucc 0)), (20, (.negSucc 0)), (21, (.negSucc 0)), (22, (.negSucc 0))])], [qvK (.ofNat 0), qvR 0, qvK (.ofNat 0)], zh48, [(2, [1], []), (1, [1], []), (5, [6], [(sL 1), (sL 33), (sL 34)]), (4, [4], [(sL 0), ((.ofNat 1), [(34, (.ofNat 1))])])]), symsL 35 0, some ((.ofNat 9), []), 0, 0)
noncomputable def c188_1_p1 : PE := (4, [2, 0, 1], (35, (zt128 []), [((.ofNat 1), [(19, (.negSucc 0)), (20, (.negSucc 0)), (21, (.negSucc 0)), (22, (.negSucc 0))])], [qvK (.ofNat 1), qvR 0, qvS 19], zh48, [(2, [1], []), (1, [1], []), (5, [6], [(sL 1), (sL 33), (sL 34)]), (4, [4], [(sL 0), ((.ofNat 1), [(34, (.ofNat 1))])])]), symsL 35 0, some ((.ofNat 8), []), 0, 0)
noncomputable def c188_1_p2 : PE := (4, [2, 0, 1], (35, (zt121 [qtN 33 0 70, qtN 34 0 70]), [((.ofNat 1), [(19, (.negSucc 0)), (20, (.negSucc 0)), (21, (.negSucc 0)), (22, (.negSucc 0))])], [qvK (.ofNat 2), qvR 0, .inl (false, ((.ofNat 0), [(19, (.ofNat 1)), (20, (.ofNat 1))]))], zh48, [(2, [1], []), (1, [1], []), (5, [6], [(sL 1), (sL 33), (sL 34)]), (4, [4], [(sL 0), ((.ofNat 1), [(34, (.ofNat 1))])])]), symsL 35 0, some ((.ofNat 7), []), 0, 0)
noncomputable def c188_1_p3 : PE := (4, [2, 0, 1], (35, (zt122 [qtN 33 0 70, qtN 34 0 70]), [((.ofNat 1), [(19, (.negSucc 0)), (20, (.negSucc 0)), (21, (.negSucc 0)), (22, (.negSucc 0))])], [qvK (.ofNat 3), qvR 0, .inl (false, ((.ofNat 0), [(19, (.ofNat 1)), (20, (.ofNat 1)), (21, (.ofNat 1))]))], zh48, [(2, [1], []), (1, [1], []), (5, [6], [(sL 1), (sL 33), (sL 34)]), (4, [4], [(sL 0), ((.ofNat 1), [(34, (.ofNat 1))])])]), symsL 35 0, some ((.ofNat 6), []), 0, 0)
noncomputable def c188_1_p4 : PE := (4, [2, 0, 1], (35, (zt123 [qtN 33 0 70, qtN 34 0 70]), [((.ofNat 1), [(19, (.negSucc 0)), (20, (.negSucc 0)), (21, (.negSucc 0)), (22, (.negSucc 0))])], [qvK (.ofNat 4), qvR 0, .inl (false, ((.ofNat 0), [(19, (.ofNat 1)), (20, (.ofNat 1)), (21, (.ofNat 1)), (22, (.ofNat 1))]))], zh48, [(2, [1], []), (1, [1], []), (5, [6], [(sL 1), (sL 33), (sL 34)]), (4, [4], [(sL 0), ((.ofNat 1), [(34, (.ofNat 1))])])]), symsL 35 0, some ((.ofNat 5), []), 0, 0)
noncomputable def c188_1_pts : List PE := [c188_1_p0, c188_1_p1, c188_1_p2, c188_1_p3, c188_1_p4]
set_option maxRecDepth 100000 in
theorem c188_1_k : enCtF c188_1 c188_1_e (pkP (c188_1_pts ++ []) [0]) (none) (noF, noM, 16, 0, 35) 3000 = true := by decide +kernel
set_option maxRecDepth 100000 in
theorem c188_1_k0 : ptCtF c188_1 c188_1_e (pkP (c188_1_pts ++ []) [1]) (noF, noM, 16, 0, 35) 3000 c188_1_p0 = true := by decide +kernel
set_option maxRecDepth 100000 in
theorem c188_1_k1 : ptCtF c188_1 c188_1_e (pkP (c188_1_pts ++ []) [2]) (noF, noM, 16, 0, 35) 3000 c188_1_p1 = true := by decide +kernel
set_option maxRecDepth 100000 in
theorem c188_1_k2 : ptCtF c188_1 c188_1_e (pkP (c188_1_pts ++ []) [3]) (noF, noM, 16, 0, 35) 3000 c188_1_p2 = true := by decide +kernel
set_option maxRecDepth 100000 in
theorem c188_1_k3 : ptCtF c188_1 c188_1_e (pkP (c188_1_pts ++ []) [4]) (noF, noM, 16, 0, 35) 3000 c188_1_p3 = true := by decide +kernel
set_option maxRecDepth 100000 in
theorem c188_1_k4 : ptCtF c188_1 c188_1_e (pkP (c188_1_pts ++ []) []) (noF, noM, 16, 0, 35) 3000 c188_1_p4 = true := by decide +kernel
set_option maxRecDepth 100000 in
theorem c188_1_v : ValidC PPk c188_1 := ct_ok fpk ⟨noF_ok, noM_ok⟩ (d := 1) (ext := []) (pts := c188_1_pts) (env := c188_1_e) rfl (List.forall_mem_cons.mpr ⟨⟨c175_13_v, Nat.le_of_ble_eq_true rfl⟩, List.forall_mem_cons.mpr ⟨⟨c175_14_v, Nat.le_of_ble_eq_true rfl⟩, List.forall_mem_cons.mpr ⟨⟨c175_15_v, Nat.le_of_ble_eq_true rfl⟩, List.forall_mem_cons.mpr ⟨⟨c175_16_v, Nat.le_of_ble_eq_true rfl⟩, fun _ h => (by cases h)⟩⟩⟩⟩) ext_nil (fun q h => (by cases h)) (enF c188_1_k) (List.forall_mem_cons.mpr ⟨⟨_, ptF c188_1_k0⟩, List.forall_mem_cons.mpr ⟨⟨_, ptF c188_1_k1⟩, List.forall_mem_cons.mpr ⟨⟨_, ptF c188_1_k2⟩, List.forall_mem_cons.mpr ⟨⟨_, ptF c188_1_k3⟩, List.forall_mem_cons.mpr ⟨⟨_, ptF c188_1_k4⟩, fun _ h => (by cases h)⟩⟩⟩⟩⟩)

noncomputable def c194_0 : Ct := (194, 1, (1, [qtA 0], [], [qvS 0], [], []),
  [((2, [qtA 1], [], [qvS 1], [], []), 0, 0)])
noncomputable def c194_0_e : List Ct := []
noncomputable def c194_0_p0 : PE := (4, [0, 1, 2], (3, [qtA 0, qtA 1, qtA 2], [], [qvS 0, qvS 1, qvS 2], [], []), symsL 1 0, some ((.ofNat 6442450944), [(2, (.ofNat 1))]), 0, 0)
noncomputable def c194_0_pts : List PE := [c194_0_p0]
set_option maxRecDepth 100000 in
theorem c194_0_k : enCtF c194_0 c194_0_e (pkP (c194_0_pts ++ []) [0]) (none) (noF, noM, 16, 0, 1) 3000 = true := by decide +kernel
set_option maxRecDepth 100000 in
theorem c194_0_k0 : ptCtF c194_0 c194_0_e (pkP (c194_0_pts ++ []) [0]) (noF, noM, 16, 0, 1) 3000 c194_0_p0 = true := by decide +kernel
set_option maxRecDepth 100000 in
theorem c194_0_v : ValidC PPk c194_0 := ct_ok fpk ⟨noF_ok, noM_ok⟩ (d := 0) (ext := []) (pts := c194_0_pts) (env := c194_0_e) rfl (fun _ h => (by cases h)) ext_nil (fun q h => (by cases h)) (enF c194_0_k) (List.forall_mem_cons.mpr ⟨⟨_, ptF c194_0_k0⟩, fun _ h => (by cases h)⟩)

noncomputable def c193_0 : Ct := (193, 3, (36, (zt2 [qtA 33, qtN 34 0 70, qtN 35 0 70]), [((.ofNat 1), [(19, (.negSucc 0)), (20, (.negSucc 0)), (21, (.negSucc 0)), (22, (.negSucc 0))])], [qvR 0, qvS 33], zh48, [(2, [1], []), (1, [1], []), (5, [6], [(sL 1), (sL 34), (sL 35)]), (4, [4], [(sL 0), ((.ofNat 1), [(35, (.ofNat 1))])])]),
  [((37, [qtA 36], [], [.inl (true, (sL 36))], zh48, [(2, [1], []), (1, [1], []), (5, [6], [(sL 1), (sL 34), (sL 35)]), (4, [4], [(sL 0), ((.ofNat 1), [(35, (.ofNat 1))])])]), 0, 0)])
noncomputable def c193_0_e : List Ct := [c188_1, c194_0]
noncomputable def c193_0_pts : List PE := []
set_option maxRecDepth 100000 in
theorem c193_0_k : enCtF c193_0 c193_0_e (pkP (c193_0_pts ++ []) []) (none) noH 3000 = true := by decide +kernel
set_option maxRecDepth 100000 in
theorem c193_0_v : ValidC PPk c193_0 := ct_ok fpk noH_ok (d := 2) (ext := []) (pts := c193_0_pts) (env := c193_0_e) rfl (List.forall_mem_cons.mpr ⟨⟨c188_1_v, Nat.le_of_ble_eq_true rfl⟩, List.forall_mem_cons.mpr ⟨⟨c194_0_v, Nat.le_of_ble_eq_true rfl⟩, fun _ h => (by cases h)⟩⟩) ext_nil (fun q h => (by cases h)) (enF c193_0_k) (fun _ h => (by cases h))

noncomputable def c195_0 : Ct := (195, 1, (3, [qtA 0, (1, (.negSucc 9223372036854775807), (.ofNat 9223372036854775807)), (2, (.negSucc 9223372036854775807), (.ofNat 9223372036854775807))], [], [qvS 0, .inl (true, (sL 1)), .inl (true, (sL 2))], [], []),
  [((4, [(3, (.negSucc 9223372036854775807), (.ofNat 9223372036854775807))], [], [.inl (true, (sL 3))], [], []), 0, 0)])
noncomputable def c195_0_e : List Ct := []
noncomputable def c195_0_pts : List PE := []
set_option maxRecDepth 100000 in
theorem c195_0_k : enCtF c195_0 c195_0_e (pkP (c195_0_pts ++ []) []) (none) noH 3000 = true := by decide +kernel
set_option maxRecDepth 100000 in
theorem c195_0_v : ValidC PPk c195_0 := ct_ok fpk noH_ok (d := 0) (ext := []) (pts := c195_0_pts) (env := c195_0_e) rfl (fun _ h => (by cases h)) ext_nil (fun q h => (by cases h)) (enF c195_0_k) (fun _ h => (by cases h))

noncomputable def zt129 (r : TbL) : TbL := qtN 0 0 69 :: qtN 1 0 69 :: qtN 2 0 8 :: qtA 3 :: qtA 4 :: qtA 5 :: qtA 6 :: qtA 7 :: qtA 8 :: qtA 9 :: qtN 10 1 4 :: qtN 11 0 60 :: qtN 12 0 8 :: qtN 13 0 6 :: qtN 14 0 8 :: qtN 15 0 60 :: qtN 16 0 60 :: qtN 17 0 10 :: qtA 18 :: qtN 19 0 1 :: qtN 20 0 1 :: qtN 21 0 1 :: qtN 22 0 1 :: qtN 33 0 70 :: qtN 34 0 70 :: qtN 35 0 70 :: r
noncomputable def c175_17 : Ct := (175, 1, (36, (zt129 []), [((.ofNat 1), [(19, (.negSucc 0)), (20, (.negSucc 0)), (21, (.negSucc 0)), (22, (.negSucc 0))])], [qvR 0, qvK (.ofNat 0), qvK (.ofNat 12)], zh48, [(2, [1], []), (1, [1], []), (5, [6], [(sL 1), (sL 33), (sL 34)]), (4, [4], [(sL 0), (sL 35)])]),
  [((36, [], [], [qvS 19], zh48, [(2, [1], []), (1, [1], []), (5, [6], [(sL 1), (sL 33), (sL 34)]), (4, [4], [(sL 0), (sL 35)])]), 0, 0)])
noncomputable def c175_17_e : List Ct := []
noncomputable def c175_17_pts : List PE := []
set_option maxRecDepth 100000 in
theorem c175_17_k : enCtF c175_17 c175_17_e (pkP (c175_17_pts ++ []) []) (none) noH 3000 = true := by decide +kernel
set_option maxRecDepth 100000 in
theorem c175_17_v : ValidC PPk c175_17 := ct_ok fpk noH_ok (d := 0) (ext := []) (pts := c175_17_pts) (env := c175_17_e) rfl (fun _ h => (by cases h)) ext_nil (fun q h => (by cases h)) (enF c175_17_k) (fun _ h => (by cases h))

noncomputable def c175_18 : Ct := (175, 1, (36, (zt129 []), [((.ofNat 1), [(19, (.negSucc 0)), (20, (.negSucc 0)), (21, (.negSucc 0)), (22, (.negSucc 0))])], [qvR 0, qvK (.ofNat 1), qvK (.ofNat 12)], zh48, [(2, [1], []), (1, [1], []), (5, [6], [(sL 1), (sL 33), (sL 34)]), (4, [4], [(sL 0), (sL 35)])]),
  [((36, [], [], [qvS 20], zh48, [(2, [1], []), (1, [1], []), (5, [6], [(sL 1), (sL 33), (sL 34)]), (4, [4], [(sL 0), (sL 35)])]), 0, 0)])
noncomputable def c175_18_e : List Ct := []
noncomputable def c175_18_pts : List PE := []
set_option maxRecDepth 100000 in
theorem c175_18_k : enCtF c175_18 c175_18_e (pkP (c175_18_pts ++ []) []) (none) noH 3000 = true := by decide +kernel
set_option maxRecDepth 100000 in
theorem c175_18_v : ValidC PPk c175_18 := ct_ok fpk noH_ok (d := 0) (ext := []) (pts := c175_18_pts) (env := c175_18_e) rfl (fun _ h => (by cases h)) ext_nil (fun q h => (by cases h)) (enF c175_18_k) (fun _ h => (by cases h))

noncomputable def c175_19 : Ct := (175, 1, (36, (zt129 []), [((.ofNat 1), [(19, (.negSucc 0)), (20, (.negSucc 0)), (21, (.negSucc 0)), (22, (.negSucc 0))])], [qvR 0, qvK (.ofNat 2), qvK (.ofNat 12)], zh48, [(2, [1], []), (1, [1], []), (5, [6], [(sL 1), (sL 33), (sL 34)]), (4, [4], [(sL 0), (sL 35)])]),
  [((36, [], [], [qvS 21], zh48, [(2, [1], []), (1, [1], []), (5, [6], [(sL 1), (sL 33), (sL 34)]), (4, [4], [(sL 0), (sL 35)])]), 0, 0)])
noncomputable def c175_19_e : List Ct := []
noncomputable def c175_19_pts : List PE := []
set_option maxRecDepth 100000 in
theorem c175_19_k : enCtF c175_19 c175_19_e (pkP (c175_19_pts ++ []) []) (none) noH 3000 = true := by decide +kernel
set_option maxRecDepth 100000 in
theorem c175_19_v : ValidC PPk c175_19 := ct_ok fpk noH_ok (d := 0) (ext := []) (pts := c175_19_pts) (env := c175_19_e) rfl (fun _ h => (by cases h)) ext_nil (fun q h => (by cases h)) (enF c175_19_k) (fun _ h => (by cases h))

noncomputable def c175_20 : Ct := (175, 1, (36, (zt129 []), [((.ofNat 1), [(19, (.negSucc 0)), (20, (.negSucc 0)), (21, (.negSucc 0)), (22, (.negSucc 0))])], [qvR 0, qvK (.ofNat 3), qvK (.ofNat 12)], zh48, [(2, [1], []), (1, [1], []), (5, [6], [(sL 1), (sL 33), (sL 34)]), (4, [4], [(sL 0), (sL 35)])]),
  [((36, [], [], [qvS 22], zh48, [(2, [1], []), (1, [1], []), (5, [6], [(sL 1), (sL 33), (sL 34)]), (4, [4], [(sL 0), (sL 35)])]), 0, 0)])
noncomputable def c175_20_e : List Ct := []
noncomputable def c175_20_pts : List PE := []
set_option maxRecDepth 100000 in
theorem c175_20_k : enCtF c175_20 c175_20_e (pkP (c175_20_pts ++ []) []) (none) noH 3000 = true := by decide +kernel
set_option maxRecDepth 100000 in
theorem c175_20_v : ValidC PPk c175_20 := ct_ok fpk noH_ok (d := 0) (ext := []) (pts := c175_20_pts) (env := c175_20_e) rfl (fun _ h => (by cases h)) ext_nil (fun q h => (by cases h)) (enF c175_20_k) (fun _ h => (by cases h))

noncomputable def zt130 (r : TbL) : TbL := qtN 0 0 69 :: qtN 1 0 69 :: qtN 2 0 8 :: qtA 3 :: qtA 4 :: qtA 5 :: qtA 6 :: qtA 7 :: qtA 8 :: qtA 9 :: qtN 10 1 4 :: qtN 11 0 60 :: qtN 12 0 8 :: qtN 13 0 6 :: qtN 14 0 8 :: qtN 15 0 60 :: qtN 16 0 60 :: qtN 17 0 10 :: qtA 18 :: qtN 19 0 1 :: qtN 20 0 1 :: qtN 21 0 1 :: qtN 22 0 1 :: qtN 33 0 70 :: qtN 34 0 70 :: qtN 35 0 70 :: qtN 36 0 70 :: r
noncomputable def c188_2 : Ct := (188, 2, (37, (zt130 []), [((.ofNat 1), [(19, (.negSucc 0)), (20, (.negSucc 0)), (21, (.negSucc 0)), (22, (.negSucc 0))])], [qvR 0], zh48, [(2, [1], []), (1, [1], []), (5, [6], [(sL 1), (sL 33), (sL 34)]), (4, [4], [(sL 0), (sL 35)]), (4, [4], [((.negSucc 0), [(0, (.ofNat 1))]), (sL 36)])]),
  [((37, [qtN 10 1 1], [], [qvS 19], zh48, [(2, [1], []), (1, [1], []), (5, [6], [(sL 1), (sL 33), (sL 34)]), (4, [4], [(sL 0), (sL 35)])]), 0, 0),
   ((37, [qtN 10 2 2], [], [.inl (false, ((.ofNat 0), [(19, (.ofNat 1)), (20, (.ofNat 1))]))], zh48, [(2, [1], []), (1, [1], []), (5, [6], [(sL 1), (sL 33), (sL 34)]), (4, [4], [(sL 0), (sL 35)])]), 0, 0),
   ((37, [qtN 10 3 3], [], [.inl (false, ((.ofNat 0), [(19, (.ofNat 1)), (20, (.ofNat 1)), (21, (.ofNat 1))]))], zh48, [(2, [1], []), (1, [1], []), (5, [6], [(sL 1), (sL 33), (sL 34)]), (4, [4], [(sL 0), (sL 35)])]), 0, 0),
   ((37, [qtN 10 4 4], [], [.inl (false, ((.ofNat 0), [(19, (.ofNat 1)), (20, (.ofNat 1)), (21, (.ofNat 1)), (22, (.ofNat 1))]))], zh48, [(2, [1], []), (1, [1], []), (5, [6], [(sL 1), (sL 33), (sL 34)]), (4, [4], [(sL 0), (sL 35)])]), 0, 0)])
noncomputable def c188_2_e : List Ct := [c175_17, c175_18, c175_19, c175_20]
noncomputable def c188_2_p0 : PE := (4, [2, 0, 1], (37, (zt130 []), [((.ofNat 1), [(19, (.negSucc 0)), (20, (.negSucc 0)), (21, (.negSucc 0)), (22, (.negSucc 0))])], [qvK (.ofNat 0), qvR 0, qvK (.ofNat 0)], zh48, [(2, [1], []), (1, [1], []), (5, [6], [(sL 1), (sL 33), (sL 34)]), (4, [4], [(sL 0), (sL 35)])]), symsL 37 0, some ((.ofNat 9), []), 0, 0)
noncomputable def c188_2_p1 : PE := (4, [2, 0, 1], (37, (zt130 []), [((.ofNat 1), [(19, (.negSucc 0)), (20, (.negSucc 0)), (21, (.negSucc 0)), (22, (.negSucc 0))])], [qvK (.ofNat 1), qvR 0, qvS 19], zh48, [(2, [1], []), (1, [1], []), (5, [6], [(sL 1), (sL 33), (sL 34)]), (4, [4], [(sL 0), (sL 35)])]), symsL 37 0, some ((.ofNat 8), []), 0, 0)
noncomputable def c188_2_p2 : PE := (4, [2, 0, 1], (37, (zt121 [qtN 33 0 70, qtN 34 0 70, qtN 35 0 70, qtN 36 0 70]), [((.ofNat 1), [(19, (.negSucc 0)), (20, (.negSucc 0)), (21, (.negSucc 0)), (22, (.negSucc 0))])], [qvK (.ofNat 2), qvR 0, .inl (false, ((.ofNat 0), [(19, (.ofNat 1)), (20, (.ofNat 1))]))], zh48, [(2, [1], []), (1, [1], []), (5, [6], [(sL 1), (sL 33), (sL 34)]), (4, [4], [(sL 0), (sL 35)])]), symsL 37 0, some ((.ofNat 7), []), 0, 0)
noncomputable def c188_2_p3 : PE := (4, [2, 0, 1], (37, (zt122 [qtN 33 0 70, qtN 34 0 70, qtN 35 0 70, qtN 36 0 70]), [((.ofNat 1), [(19, (.negSucc 0)), (20, (.negSucc 0)), (21, (.negSucc 0)), (22, (.negSucc 0))])], [qvK (.ofNat 3), qvR 0, .inl (false, ((.ofNat 0), [(19, (.ofNat 1)), (20, (.ofNat 1)), (21, (.ofNat 1))]))], zh48, [(2, [1], []), (1, [1], []), (5, [6], [(sL 1), (sL 33), (sL 34)]), (4, [4], [(sL 0), (sL 35)])]), symsL 37 0, some ((.ofNat 6), []), 0, 0)
noncomputable def c188_2_p4 : PE := (4, [2, 0, 1], (37, (zt123 [qtN 33 0 70, qtN 34 0 70, qtN 35 0 70, qtN 36 0 70]), [((.ofNat 1), [(19, (.negSucc 0)), (20, (.negSucc 0)), (21, (.negSucc 0)), (22, (.negSucc 0))])], [qvK (.ofNat 4), qvR 0, .inl (false, ((.ofNat 0), [(19, (.ofNat 1)), (20, (.ofNat 1)), (21, (.ofNat 1)), (22, (.ofNat 1))]))], zh48, [(2, [1], []), (1, [1], []), (5, [6], [(sL 1), (sL 33), (sL 34)]), (4, [4], [(sL 0), (sL 35)])]), symsL 37 0, some ((.ofNat 5), []), 0, 0)
noncomputable def c188_2_pts : List PE := [c188_2_p0, c188_2_p1, c188_2_p2, c188_2_p3, c188_2_p4]
set_option maxRecDepth 100000 in
theorem c188_2_k : enCtF c188_2 c188_2_e (pkP (c188_2_pts ++ []) [0]) (none) (noF, noM, 16, 0, 37) 3000 = true := by decide +kernel
set_option maxRecDepth 100000 in
theorem c188_2_k0 : ptCtF c188_2 c188_2_e (pkP (c188_2_pts ++ []) [1]) (noF, noM, 16, 0, 37) 3000 c188_2_p0 = true := by decide +kernel
set_option maxRecDepth 100000 in
theorem c188_2_k1 : ptCtF c188_2 c188_2_e (pkP (c188_2_pts ++ []) [2]) (noF, noM, 16, 0, 37) 3000 c188_2_p1 = true := by decide +kernel
set_option maxRecDepth 100000 in
theorem c188_2_k2 : ptCtF c188_2 c188_2_e (pkP (c188_2_pts ++ []) [3]) (noF, noM, 16, 0, 37) 3000 c188_2_p2 = true := by decide +kernel
set_option maxRecDepth 100000 in
theorem c188_2_k3 : ptCtF c188_2 c188_2_e (pkP (c188_2_pts ++ []) [4]) (noF, noM, 16, 0, 37) 3000 c188_2_p3 = true := by decide +kernel
set_option maxRecDepth 100000 in
theorem c188_2_k4 : ptCtF c188_2 c188_2_e (pkP (c188_2_pts ++ []) []) (noF, noM, 16, 0, 37) 3000 c188_2_p4 = true := by decide +kernel
set_option maxRecDepth 100000 in
theorem c188_2_v : ValidC PPk c188_2 := ct_ok fpk ⟨noF_ok, noM_ok⟩ (d := 1) (ext := []) (pts := c188_2_pts) (env := c188_2_e) rfl (List.forall_mem_cons.mpr ⟨⟨c175_17_v, Nat.le_of_ble_eq_true rfl⟩, List.forall_mem_cons.mpr ⟨⟨c175_18_v, Nat.le_of_ble_eq_true rfl⟩, List.forall_mem_cons.mpr ⟨⟨c175_19_v, Nat.le_of_ble_eq_true rfl⟩, List.forall_mem_cons.mpr ⟨⟨c175_20_v, Nat.le_of_ble_eq_true rfl⟩, fun _ h => (by cases h)⟩⟩⟩⟩) ext_nil (fun q h => (by cases h)) (enF c188_2_k) (List.forall_mem_cons.mpr ⟨⟨_, ptF c188_2_k0⟩, List.forall_mem_cons.mpr ⟨⟨_, ptF c188_2_k1⟩, List.forall_mem_cons.mpr ⟨⟨_, ptF c188_2_k2⟩, List.forall_mem_cons.mpr ⟨⟨_, ptF c188_2_k3⟩, List.forall_mem_cons.mpr ⟨⟨_, ptF c188_2_k4⟩, fun _ h => (by cases h)⟩⟩⟩⟩⟩)

noncomputable def c193_1 : Ct := (193, 3, (38, (zt2 [qtA 33, qtN 34 0 70, qtN 35 0 70, qtN 36 0 70, qtN 37 0 70]), [((.ofNat 1), [(19, (.negSucc 0)), (20, (.negSucc 0)), (21, (.negSucc 0)), (22, (.negSucc 0))])], [qvR 0, qvS 33], zh48, [(2, [1], []), (1, [1], []), (5, [6], [(sL 1), (sL 34), (sL 35)]), (4, [4], [(sL 0), (sL 36)]), (4, [4], [((.negSucc 0), [(0, (.ofNat 1))]), (sL 37)])]),
  [((39, [qtA 38], [], [.inl (true, (sL 38))], zh48, [(2, [1], []), (1, [1], []), (5, [6], [(sL 1), (sL 34), (sL 35)]), (4, [4], [(sL 0), (sL 36)])]), 0, 0)])
noncomputable def c193_1_e : List Ct := [c188_2, c194_0]
noncomputable def c193_1_pts : List PE := []
set_option maxRecDepth 100000 in
theorem c193_1_k : enCtF c193_1 c193_1_e (pkP (c193_1_pts ++ []) []) (none) noH 3000 = true := by decide +kernel
set_option maxRecDepth 100000 in
theorem c193_1_v : ValidC PPk c193_1 := ct_ok fpk noH_ok (d := 2) (ext := []) (pts := c193_1_pts) (env := c193_1_e) rfl (List.forall_mem_cons.mpr ⟨⟨c188_2_v, Nat.le_of_ble_eq_true rfl⟩, List.forall_mem_cons.mpr ⟨⟨c194_0_v, Nat.le_of_ble_eq_true rfl⟩, fun _ h => (by cases h)⟩⟩) ext_nil (fun q h => (by cases h)) (enF c193_1_k) (fun _ h => (by cases h))
