/-! ===== contracts, written by wip/vse2/emitgen.py ===== -/
def zc793 : AC := .inl (12, [.inr (.inl (some 1)), .inr (.inl (some 2)), .inr (.inl (some 3)), .inl (false, ((.ofNat 0), [(31, (.ofNat 1))])), .inr (.inl (some 4)), .inr (.inl (some 5)), .inl (false, ((.ofNat 0), [(30, (.ofNat 1))])), .inr (.inl (some 6)), .inr (.inl (some 7)), .inl (false, ((.ofNat 0), [(32, (.ofNat 1))])), .inr (.inl (some 8)), .inl (false, ((.ofNat 0), [(33, (.ofNat 1))])), .inr (.inl (some 9)), .inr (.inl (some 10)), .inr (.inl (some 11)), .inr (.inl (some 12)), .inl (false, ((.ofNat 0), [(4, (.ofNat 1))])), .inl (false, ((.ofNat 0), [(5, (.ofNat 1))])), .inl (false, ((.ofNat 0), [(6, (.ofNat 1))])), .inr (.inl (some 13)), .inl (false, ((.ofNat 0), [(7, (.ofNat 1))])), .inl (false, ((.ofNat 0), [(8, (.ofNat 1))])), .inl (false, ((.ofNat 0), [(9, (.ofNat 1))])), .inr (.inl (some 14))])
def zc794 : AC := .inr (0, .inl [.inl ((.ofNat 0), [(10, (.ofNat 1))]), .inl ((.ofNat 0), [(34, (.ofNat 1))]), .inl ((.ofNat 0), [(12, (.ofNat 1))]), .inl ((.ofNat 0), [(13, (.ofNat 1))]), .inl ((.ofNat 0), [(14, (.ofNat 1))]), .inl ((.ofNat 0), [(15, (.ofNat 1))]), .inl ((.ofNat 0), [(35, (.ofNat 1))]), .inl ((.ofNat 0), [(17, (.ofNat 1))]), .inr (5, (.negSucc 2147483647), (.ofNat 2147483647)), .inr (1, (.ofNat 0), (.ofNat 3)), .inl ((.ofNat 0), [(36, (.ofNat 1))]), .inr (2, (.negSucc 2147483647), (.ofNat 2147483647)), .inr (1, (.ofNat 1), (.ofNat 1000)), .inr (1, (.ofNat 0), (.ofNat 50)), .inr (23, (.negSucc 2147483647), (.ofNat 2147483647)), .inl ((.ofNat 0), [(37, (.ofNat 1))]), .inr (39, (.negSucc 2147483647), (.ofNat 2147483647)), .inl ((.ofNat 0), [(38, (.ofNat 1))]), .inr (39, (.negSucc 2147483647), (.ofNat 2147483647)), .inl ((.ofNat 0), [(39, (.ofNat 1))]), .inr (39, (.negSucc 2147483647), (.ofNat 2147483647)), .inl ((.ofNat 0), [(40, (.ofNat 1))]), .inr (517, (.negSucc 2147483647), (.ofNat 2147483647)), .inr (12, (.ofNat 0), (.ofNat 60)), .inr (1, (.ofNat 0), (.ofNat 5)), .inr (1, (.ofNat 0), (.ofNat 39)), .inr (1, (.ofNat 0), (.ofNat 40)), .inr (1, (.ofNat 0), (.ofNat 5)), .inr (1, (.ofNat 0), (.ofNat 39)), .inr (1, (.ofNat 0), (.ofNat 40)), .inr (1, (.ofNat 0), (.ofNat 5)), .inr (1, (.ofNat 0), (.ofNat 39)), .inr (1, (.ofNat 0), (.ofNat 40)), .inr (1, (.ofNat 0), (.ofNat 5)), .inr (1, (.ofNat 0), (.ofNat 39)), .inr (1, (.ofNat 0), (.ofNat 40)), .inr (1, (.ofNat 0), (.ofNat 5)), .inr (1, (.ofNat 0), (.ofNat 39)), .inr (1, (.ofNat 0), (.ofNat 40)), .inr (1, (.ofNat 0), (.ofNat 5)), .inr (1, (.ofNat 0), (.ofNat 39)), .inr (1, (.ofNat 0), (.ofNat 40)), .inr (1, (.ofNat 0), (.ofNat 5)), .inr (1, (.ofNat 0), (.ofNat 39)), .inr (1, (.ofNat 0), (.ofNat 40)), .inr (1, (.ofNat 0), (.ofNat 5)), .inr (1, (.ofNat 0), (.ofNat 39)), .inr (1, (.ofNat 0), (.ofNat 40)), .inr (78, (.negSucc 2147483647), (.ofNat 2147483647)), .inr (1, (.ofNat 0), (.ofNat 5)), .inr (4, (.negSucc 2147483647), (.ofNat 2147483647)), .inr (1, (.ofNat 0), (.ofNat 5)), .inr (4, (.negSucc 2147483647), (.ofNat 2147483647)), .inr (1, (.ofNat 0), (.ofNat 5)), .inr (4, (.negSucc 2147483647), (.ofNat 2147483647)), .inr (1, (.ofNat 0), (.ofNat 5)), .inr (4, (.negSucc 2147483647), (.ofNat 2147483647)), .inr (1, (.ofNat 0), (.ofNat 5)), .inr (4, (.negSucc 2147483647), (.ofNat 2147483647)), .inr (1, (.ofNat 0), (.ofNat 5)), .inr (4, (.negSucc 2147483647), (.ofNat 2147483647)), .inr (1, (.ofNat 0), (.ofNat 5)), .inr (4, (.negSucc 2147483647), (.ofNat 2147483647)), .inr (1, (.ofNat 0), (.ofNat 5)), .inr (2, (.negSucc 2147483647), (.ofNat 2147483647)), .inr (60, (.ofNat 0), (.ofNat 127)), .inr (18, (.negSucc 2147483647), (.ofNat 2147483647))])
def zc795 : AC := .inr (0, .inl [.inl ((.ofNat 0), [(10, (.ofNat 1))]), .inl ((.ofNat 0), [(31, (.ofNat 1))]), .inl ((.ofNat 0), [(12, (.ofNat 1))]), .inl ((.ofNat 0), [(13, (.ofNat 1))]), .inl ((.ofNat 0), [(14, (.ofNat 1))]), .inl ((.ofNat 0), [(15, (.ofNat 1))]), .inl ((.ofNat 0), [(32, (.ofNat 1))]), .inl ((.ofNat 0), [(17, (.ofNat 1))]), .inr (5, (.negSucc 2147483647), (.ofNat 2147483647)), .inr (1, (.ofNat 0), (.ofNat 3)), .inl ((.ofNat 0), [(18, (.ofNat 1))]), .inr (2, (.negSucc 2147483647), (.ofNat 2147483647)), .inr (1, (.ofNat 1), (.ofNat 1000)), .inr (1, (.ofNat 0), (.ofNat 50)), .inr (23, (.negSucc 2147483647), (.ofNat 2147483647)), .inl ((.ofNat 0), [(19, (.ofNat 1))]), .inr (39, (.negSucc 2147483647), (.ofNat 2147483647)), .inl ((.ofNat 0), [(20, (.ofNat 1))]), .inr (39, (.negSucc 2147483647), (.ofNat 2147483647)), .inl ((.ofNat 0), [(21, (.ofNat 1))]), .inr (39, (.negSucc 2147483647), (.ofNat 2147483647)), .inl ((.ofNat 0), [(22, (.ofNat 1))]), .inr (517, (.negSucc 2147483647), (.ofNat 2147483647)), .inr (12, (.ofNat 0), (.ofNat 60)), .inr (1, (.ofNat 0), (.ofNat 5)), .inr (1, (.ofNat 0), (.ofNat 39)), .inr (1, (.ofNat 0), (.ofNat 40)), .inr (1, (.ofNat 0), (.ofNat 5)), .inr (1, (.ofNat 0), (.ofNat 39)), .inr (1, (.ofNat 0), (.ofNat 40)), .inr (1, (.ofNat 0), (.ofNat 5)), .inr (1, (.ofNat 0), (.ofNat 39)), .inr (1, (.ofNat 0), (.ofNat 40)), .inr (1, (.ofNat 0), (.ofNat 5)), .inr (1, (.ofNat 0), (.ofNat 39)), .inr (1, (.ofNat 0), (.ofNat 40)), .inr (1, (.ofNat 0), (.ofNat 5)), .inr (1, (.ofNat 0), (.ofNat 39)), .inr (1, (.ofNat 0), (.ofNat 40)), .inr (1, (.ofNat 0), (.ofNat 5)), .inr (1, (.ofNat 0), (.ofNat 39)), .inr (1, (.ofNat 0), (.ofNat 40)), .inr (1, (.ofNat 0), (.ofNat 5)), .inr (1, (.ofNat 0), (.ofNat 39)), .inr (1, (.ofNat 0), (.ofNat 40)), .inr (1, (.ofNat 0), (.ofNat 5)), .inr (1, (.ofNat 0), (.ofNat 39)), .inr (1, (.ofNat 0), (.ofNat 40)), .inr (76, (.negSucc 2147483647), (.ofNat 2147483647)), .inr (2, (.negSucc 2147483647), (.ofNat 2147483647)), .inr (1, (.ofNat 0), (.ofNat 5)), .inr (2, (.negSucc 2147483647), (.ofNat 2147483647)), .inr (2, (.negSucc 2147483647), (.ofNat 2147483647)), .inr (1, (.ofNat 0), (.ofNat 5)), .inr (2, (.negSucc 2147483647), (.ofNat 2147483647)), .inr (2, (.negSucc 2147483647), (.ofNat 2147483647)), .inr (1, (.ofNat 0), (.ofNat 5)), .inr (2, (.negSucc 2147483647), (.ofNat 2147483647)), .inr (2, (.negSucc 2147483647), (.ofNat 2147483647)), .inr (1, (.ofNat 0), (.ofNat 5)), .inr (2, (.negSucc 2147483647), (.ofNat 2147483647)), .inr (2, (.negSucc 2147483647), (.ofNat 2147483647)), .inr (1, (.ofNat 0), (.ofNat 5)), .inr (2, (.negSucc 2147483647), (.ofNat 2147483647)), .inr (2, (.negSucc 2147483647), (.ofNat 2147483647)), .inr (1, (.ofNat 0), (.ofNat 5)), .inr (2, (.negSucc 2147483647), (.ofNat 2147483647)), .inr (2, (.negSucc 2147483647), (.ofNat 2147483647)), .inr (1, (.ofNat 0), (.ofNat 5)), .inr (2, (.negSucc 2147483647), (.ofNat 2147483647)), .inr (2, (.negSucc 2147483647), (.ofNat 2147483647)), .inr (1, (.ofNat 0), (.ofNat 5)), .inr (2, (.negSucc 2147483647), (.ofNat 2147483647)), .inr (60, (.ofNat 0), (.ofNat 127)), .inr (18, (.negSucc 2147483647), (.ofNat 2147483647))])
def zc796 : AC := .inl (12, [.inr (.inl (some 1)), .inr (.inl (some 2)), .inr (.inl (some 3)), .inl (false, ((.ofNat 0), [(0, (.ofNat 1))])), .inr (.inl (some 4)), .inr (.inl (some 5)), .inl (false, ((.ofNat 0), [(1, (.ofNat 1))])), .inr (.inl (some 6)), .inr (.inl (some 7)), .inl (false, ((.ofNat 0), [(31, (.ofNat 1))])), .inr (.inl (some 8)), .inl (false, ((.ofNat 0), [(32, (.ofNat 1))])), .inr (.inl (some 9)), .inr (.inl (some 10)), .inr (.inl (some 11)), .inr (.inl (some 12)), .inl (false, ((.ofNat 0), [(4, (.ofNat 1))])), .inl (false, ((.ofNat 0), [(5, (.ofNat 1))])), .inl (false, ((.ofNat 0), [(6, (.ofNat 1))])), .inr (.inl (some 13)), .inl (false, ((.ofNat 0), [(7, (.ofNat 1))])), .inl (false, ((.ofNat 0), [(8, (.ofNat 1))])), .inl (false, ((.ofNat 0), [(9, (.ofNat 1))])), .inr (.inl (some 14))])
def zc797 : AC := .inr (0, .inl [.inl ((.ofNat 0), [(10, (.ofNat 1))]), .inl ((.ofNat 0), [(33, (.ofNat 1))]), .inl ((.ofNat 0), [(12, (.ofNat 1))]), .inl ((.ofNat 0), [(13, (.ofNat 1))]), .inl ((.ofNat 0), [(14, (.ofNat 1))]), .inl ((.ofNat 0), [(15, (.ofNat 1))]), .inl ((.ofNat 0), [(34, (.ofNat 1))]), .inl ((.ofNat 0), [(17, (.ofNat 1))]), .inr (5, (.negSucc 2147483647), (.ofNat 2147483647)), .inr (1, (.ofNat 0), (.ofNat 3)), .inl ((.ofNat 0), [(18, (.ofNat 1))]), .inr (2, (.negSucc 2147483647), (.ofNat 2147483647)), .inr (1, (.ofNat 1), (.ofNat 1000)), .inr (1, (.ofNat 0), (.ofNat 50)), .inr (23, (.negSucc 2147483647), (.ofNat 2147483647)), .inl ((.ofNat 0), [(35, (.ofNat 1))]), .inr (39, (.negSucc 2147483647), (.ofNat 2147483647)), .inl ((.ofNat 0), [(36, (.ofNat 1))]), .inr (39, (.negSucc 2147483647), (.ofNat 2147483647)), .inl ((.ofNat 0), [(37, (.ofNat 1))]), .inr (39, (.negSucc 2147483647), (.ofNat 2147483647)), .inl ((.ofNat 0), [(38, (.ofNat 1))]), .inr (517, (.negSucc 2147483647), (.ofNat 2147483647)), .inr (12, (.ofNat 0), (.ofNat 60)), .inr (1, (.ofNat 0), (.ofNat 5)), .inr (1, (.ofNat 0), (.ofNat 39)), .inr (1, (.ofNat 0), (.ofNat 40)), .inr (1, (.ofNat 0), (.ofNat 5)), .inr (1, (.ofNat 0), (.ofNat 39)), .inr (1, (.ofNat 0), (.ofNat 40)), .inr (1, (.ofNat 0), (.ofNat 5)), .inr (1, (.ofNat 0), (.ofNat 39)), .inr (1, (.ofNat 0), (.ofNat 40)), .inr (1, (.ofNat 0), (.ofNat 5)), .inr (1, (.ofNat 0), (.ofNat 39)), .inr (1, (.ofNat 0), (.ofNat 40)), .inr (1, (.ofNat 0), (.ofNat 5)), .inr (1, (.ofNat 0), (.ofNat 39)), .inr (1, (.ofNat 0), (.ofNat 40)), .inr (1, (.ofNat 0), (.ofNat 5)), .inr (1, (.ofNat 0), (.ofNat 39)), .inr (1, (.ofNat 0), (.ofNat 40)), .inr (1, (.ofNat 0), (.ofNat 5)), .inr (1, (.ofNat 0), (.ofNat 39)), .inr (1, (.ofNat 0), (.ofNat 40)), .inr (1, (.ofNat 0), (.ofNat 5)), .inr (1, (.ofNat 0), (.ofNat 39)), .inr (1, (.ofNat 0), (.ofNat 40)), .inr (76, (.negSucc 2147483647), (.ofNat 2147483647)), .inr (2, (.negSucc 2147483647), (.ofNat 2147483647)), .inr (1, (.ofNat 0), (.ofNat 5)), .inr (2, (.negSucc 2147483647), (.ofNat 2147483647)), .inr (2, (.negSucc 2147483647), (.ofNat 2147483647)), .inr (1, (.ofNat 0), (.ofNat 5)), .inr (2, (.negSucc 2147483647), (.ofNat 2147483647)), .inr (2, (.negSucc 2147483647), (.ofNat 2147483647)), .inr (1, (.ofNat 0), (.ofNat 5)), .inr (2, (.negSucc 2147483647), (.ofNat 2147483647)), .inr (2, (.negSucc 2147483647), (.ofNat 2147483647)), .inr (1, (.ofNat 0), (.ofNat 5)), .inr (2, (.negSucc 2147483647), (.ofNat 2147483647)), .inr (2, (.negSucc 2147483647), (.ofNat 2147483647)), .inr (1, (.ofNat 0), (.ofNat 5)), .inr (2, (.negSucc 2147483647), (.ofNat 2147483647)), .inr (2, (.negSucc 2147483647), (.ofNat 2147483647)), .inr (1, (.ofNat 0), (.ofNat 5)), .inr (2, (.negSucc 2147483647), (.ofNat 2147483647)), .inr (2, (.negSucc 2147483647), (.ofNat 2147483647)), .inr (1, (.ofNat 0), (.ofNat 5)), .inr (2, (.negSucc 2147483647), (.ofNat 2147483647)), .inr (2, (.negSucc 2147483647), (.ofNat 2147483647)), .inr (1, (.ofNat 0), (.ofNat 5)), .inr (2, (.negSucc 2147483647), (.ofNat 2147483647)), .inr (60, (.ofNat 0), (.ofNat 127)), .inr (18, (.negSucc 2147483647), (.ofNat 2147483647))])
def zc798 : AC := .inl (12, [.inr (.inl (some 1)), .inr (.inl (some 2)), .inr (.inl (some 3)), .inl (false, ((.ofNat 0), [(32, (.ofNat 1))])), .inr (.inl (some 4)), .inr (.inl (some 5)), .inl (false, ((.ofNat 0), [(31, (.ofNat 1))])), .inr (.inl (some 6)), .inr (.inl (some 7)), .inl (false, ((.ofNat 0), [(33, (.ofNat 1))])), .inr (.inl (some 8)), .inl (false, ((.ofNat 0), [(34, (.ofNat 1))])), .inr (.inl (some 9)), .inr (.inl (some 10)), .inr (.inl (some 11)), .inr (.inl (some 12)), .inl (false, ((.ofNat 0), [(4, (.ofNat 1))])), .inl (false, ((.ofNat 0), [(5, (.ofNat 1))])), .inl (false, ((.ofNat 0), [(6, (.ofNat 1))])), .inr (.inl (some 13)), .inl (false, ((.ofNat 0), [(7, (.ofNat 1))])), .inl (false, ((.ofNat 0), [(8, (.ofNat 1))])), .inl (false, ((.ofNat 0), [(9, (.ofNat 1))])), .inr (.inl (some 14))])
def zc799 : AC := .inr (0, .inl [.inl ((.ofNat 0), [(10, (.ofNat 1))]), .inl ((.ofNat 0), [(35, (.ofNat 1))]), .inl ((.ofNat 0), [(12, (.ofNat 1))]), .inl ((.ofNat 0), [(13, (.ofNat 1))]), .inl ((.ofNat 0), [(14, (.ofNat 1))]), .inl ((.ofNat 0), [(15, (.ofNat 1))]), .inl ((.ofNat 0), [(36, (.ofNat 1))]), .inl ((.ofNat 0), [(17, (.ofNat 1))]), .inr (5, (.negSucc 2147483647), (.ofNat 2147483647)), .inr (1, (.ofNat 0), (.ofNat 3)), .inl ((.ofNat 0), [(18, (.ofNat 1))]), .inr (2, (.negSucc 2147483647), (.ofNat 2147483647)), .inr (1, (.ofNat 1), (.ofNat 1000)), .inr (1, (.ofNat 0), (.ofNat 50)), .inr (23, (.negSucc 2147483647), (.ofNat 2147483647)), .inl ((.ofNat 0), [(37, (.ofNat 1))]), .inr (39, (.negSucc 2147483647), (.ofNat 2147483647)), .inl ((.ofNat 0), [(38, (.ofNat 1))]), .inr (39, (.negSucc 2147483647), (.ofNat 2147483647)), .inl ((.ofNat 0), [(39, (.ofNat 1))]), .inr (39, (.negSucc 2147483647), (.ofNat 2147483647)), .inl ((.ofNat 0), [(40, (.ofNat 1))]), .inr (517, (.negSucc 2147483647), (.ofNat 2147483647)), .inr (12, (.ofNat 0), (.ofNat 60)), .inr (1, (.ofNat 0), (.ofNat 5)), .inr (1, (.ofNat 0), (.ofNat 39)), .inr (1, (.ofNat 0), (.ofNat 40)), .inr (1, (.ofNat 0), (.ofNat 5)), .inr (1, (.ofNat 0), (.ofNat 39)), .inr (1, (.ofNat 0), (.ofNat 40)), .inr (1, (.ofNat 0), (.ofNat 5)), .inr (1, (.ofNat 0), (.ofNat 39)), .inr (1, (.ofNat 0), (.ofNat 40)), .inr (1, (.ofNat 0), (.ofNat 5)), .inr (1, (.ofNat 0), (.ofNat 39)), .inr (1, (.ofNat 0), (.ofNat 40)), .inr (1, (.ofNat 0), (.ofNat 5)), .inr (1, (.ofNat 0), (.ofNat 39)), .inr (1, (.ofNat 0), (.ofNat 40)), .inr (1, (.ofNat 0), (.ofNat 5)), .inr (1, (.ofNat 0), (.ofNat 39)), .inr (1, (.ofNat 0), (.ofNat 40)), .inr (1, (.ofNat 0), (.ofNat 5)), .inr (1, (.ofNat 0), (.ofNat 39)), .inr (1, (.ofNat 0), (.ofNat 40)), .inr (1, (.ofNat 0), (.ofNat 5)), .inr (1, (.ofNat 0), (.ofNat 39)), .inr (1, (.ofNat 0), (.ofNat 40)), .inr (78, (.negSucc 2147483647), (.ofNat 2147483647)), .inr (1, (.ofNat 0), (.ofNat 5)), .inr (4, (.negSucc 2147483647), (.ofNat 2147483647)), .inr (1, (.ofNat 0), (.ofNat 5)), .inr (4, (.negSucc 2147483647), (.ofNat 2147483647)), .inr (1, (.ofNat 0), (.ofNat 5)), .inr (4, (.negSucc 2147483647), (.ofNat 2147483647)), .inr (1, (.ofNat 0), (.ofNat 5)), .inr (4, (.negSucc 2147483647), (.ofNat 2147483647)), .inr (1, (.ofNat 0), (.ofNat 5)), .inr (4, (.negSucc 2147483647), (.ofNat 2147483647)), .inr (1, (.ofNat 0), (.ofNat 5)), .inr (4, (.negSucc 2147483647), (.ofNat 2147483647)), .inr (1, (.ofNat 0), (.ofNat 5)), .inr (4, (.negSucc 2147483647), (.ofNat 2147483647)), .inr (1, (.ofNat 0), (.ofNat 5)), .inr (2, (.negSucc 2147483647), (.ofNat 2147483647)), .inr (60, (.ofNat 0), (.ofNat 127)), .inr (18, (.negSucc 2147483647), (.ofNat 2147483647))])
noncomputable def c170_0 : Ct := (170, 6, (30, [(0, (.ofNat 0), (.ofNat 69)), (1, (.ofNat 0), (.ofNat 69)), (2, (.ofNat 0), (.ofNat 8)), (3, (.negSucc 2147483647), (.ofNat 2147483647)), (4, (.negSucc 2147483647), (.ofNat 2147483647)), (5, (.negSucc 2147483647), (.ofNat 2147483647)), (6, (.negSucc 2147483647), (.ofNat 2147483647)), (7, (.negSucc 2147483647), (.ofNat 2147483647)), (8, (.negSucc 2147483647), (.ofNat 2147483647)), (9, (.negSucc 2147483647), (.ofNat 2147483647)), (10, (.ofNat 1), (.ofNat 4)), (11, (.ofNat 0), (.ofNat 60)), (12, (.ofNat 0), (.ofNat 8)), (13, (.ofNat 0), (.ofNat 6)), (14, (.ofNat 0), (.ofNat 8)), (15, (.ofNat 0), (.ofNat 60)), (16, (.ofNat 0), (.ofNat 60)), (17, (.ofNat 0), (.ofNat 10)), (18, (.negSucc 2147483647), (.ofNat 2147483647)), (19, (.ofNat 0), (.ofNat 1)), (20, (.ofNat 0), (.ofNat 1)), (21, (.ofNat 0), (.ofNat 1)), (22, (.ofNat 0), (.ofNat 1))], [((.ofNat 1), [(19, (.negSucc 0)), (20, (.negSucc 0)), (21, (.negSucc 0)), (22, (.negSucc 0))])], [.inr (.inl (some 0))], [zc635,
    zc636,
    zc56,
    zc637,
    zc642,
    zc642,
    zc642,
    .inr (1, .inr (.inl 70)),
    .inr (1, .inr (.inl 8)),
    zc97,
    zc59,
    zc60,
    zc61,
    zc62,
    .inr (1, .inr (.inl 4))], [(1, [1], []), (2, [1], [])]),
  [((41, [(30, (.ofNat 0), (.ofNat 69)), (31, (.ofNat 0), (.ofNat 68)), (32, (.ofNat 0), (.ofNat 8)), (33, (.negSucc 2147483647), (.ofNat 2147483647)), (34, (.ofNat 0), (.ofNat 60)), (35, (.ofNat 0), (.ofNat 60)), (36, (.negSucc 2147483647), (.ofNat 2147483647)), (37, (.ofNat 0), (.ofNat 1)), (38, (.ofNat 0), (.ofNat 1)), (39, (.ofNat 0), (.ofNat 1)), (40, (.ofNat 0), (.ofNat 1))], [((.ofNat 1), [(37, (.negSucc 0)), (38, (.negSucc 0)), (39, (.negSucc 0)), (40, (.negSucc 0))])], [], [zc793,
    zc794,
    zc56,
    zc637,
    zc642,
    zc642,
    zc642,
    .inr (1, .inr (.inl 70)),
    .inr (1, .inr (.inl 8)),
    zc97,
    zc59,
    zc60,
    zc61,
    zc62,
    .inr (1, .inr (.inl 4))], [(1, [1], []), (2, [1], [])]), 0, 0)])
noncomputable def c170_0_e : List Ct := [c161_0, c171_0, c172_0, c175_0, c175_1, c175_2, c175_3, c176_0, c180_0, c183_0, c189_0, c190_0, c191_0, c192_0]
noncomputable def c170_0_p0 : PE := (12, [2, 0, 1], (32, [(0, (.ofNat 0), (.ofNat 69)), (1, (.ofNat 0), (.ofNat 69)), (2, (.ofNat 0), (.ofNat 8)), (3, (.negSucc 2147483647), (.ofNat 2147483647)), (4, (.negSucc 2147483647), (.ofNat 2147483647)), (5, (.negSucc 2147483647), (.ofNat 2147483647)), (6, (.negSucc 2147483647), (.ofNat 2147483647)), (7, (.negSucc 2147483647), (.ofNat 2147483647)), (8, (.negSucc 2147483647), (.ofNat 2147483647)), (9, (.negSucc 2147483647), (.ofNat 2147483647)), (10, (.ofNat 1), (.ofNat 4)), (11, (.ofNat 0), (.ofNat 60)), (12, (.ofNat 0), (.ofNat 8)), (13, (.ofNat 0), (.ofNat 6)), (14, (.ofNat 0), (.ofNat 8)), (15, (.ofNat 0), (.ofNat 60)), (16, (.ofNat 0), (.ofNat 60)), (17, (.ofNat 0), (.ofNat 10)), (18, (.negSucc 2147483647), (.ofNat 2147483647)), (19, (.ofNat 0), (.ofNat 1)), (20, (.ofNat 0), (.ofNat 1)), (21, (.ofNat 0), (.ofNat 1)), (22, (.ofNat 0), (.ofNat 1)), (30, (.ofNat 0), (.ofNat 60)), (31, (.ofNat 0), (.ofNat 60))], [((.ofNat 1), [(19, (.negSucc 0)), (20, (.negSucc 0)), (21, (.negSucc 0)), (22, (.negSucc 0))])], [.inl (false, ((.ofNat 0), [])), .inr (.inl (some 0)), .inl (false, ((.ofNat 0), []))], [zc635,
    .inr (0, .inl [.inl ((.ofNat 0), [(10, (.ofNat 1))]), .inl ((.ofNat 0), [(30, (.ofNat 1))]), .inl ((.ofNat 0), [(12, (.ofNat 1))]), .inl ((.ofNat 0), [(13, (.ofNat 1))]), .inl ((.ofNat 0), [(14, (.ofNat 1))]), .inl ((.ofNat 0), [(15, (.ofNat 1))]), .inl ((.ofNat 0), [(31, (.ofNat 1))]), .inl ((.ofNat 0), [(17, (.ofNat 1))]), .inr (5, (.negSucc 2147483647), (.ofNat 2147483647)), .inr (1, (.ofNat 0), (.ofNat 3)), .inl ((.ofNat 0), [(18, (.ofNat 1))]), .inr (2, (.negSucc 2147483647), (.ofNat 2147483647)), .inr (1, (.ofNat 1), (.ofNat 1000)), .inr (1, (.ofNat 0), (.ofNat 50)), .inr (23, (.negSucc 2147483647), (.ofNat 2147483647)), .inl ((.ofNat 0), [(19, (.ofNat 1))]), .inr (39, (.negSucc 2147483647), (.ofNat 2147483647)), .inl ((.ofNat 0), [(20, (.ofNat 1))]), .inr (39, (.negSucc 2147483647), (.ofNat 2147483647)), .inl ((.ofNat 0), [(21, (.ofNat 1))]), .inr (39, (.negSucc 2147483647), (.ofNat 2147483647)), .inl ((.ofNat 0), [(22, (.ofNat 1))]), .inr (517, (.negSucc 2147483647), (.ofNat 2147483647)), .inr (12, (.ofNat 0), (.ofNat 60)), .inr (1, (.ofNat 0), (.ofNat 5)), .inr (1, (.ofNat 0), (.ofNat 39)), .inr (1, (.ofNat 0), (.ofNat 40)), .inr (1, (.ofNat 0), (.ofNat 5)), .inr (1, (.ofNat 0), (.ofNat 39)), .inr (1, (.ofNat 0), (.ofNat 40)), .inr (1, (.ofNat 0), (.ofNat 5)), .inr (1, (.ofNat 0), (.ofNat 39)), .inr (1, (.ofNat 0), (.ofNat 40)), .inr (1, (.ofNat 0), (.ofNat 5)), .inr (1, (.ofNat 0), (.ofNat 39)), .inr (1, (.ofNat 0), (.ofNat 40)), .inr (1, (.ofNat 0), (.ofNat 5)), .inr (1, (.ofNat 0), (.ofNat 39)), .inr (1, (.ofNat 0), (.ofNat 40)), .inr (1, (.ofNat 0), (.ofNat 5)), .inr (1, (.ofNat 0), (.ofNat 39)), .inr (1, (.ofNat 0), (.ofNat 40)), .inr (1, (.ofNat 0), (.ofNat 5)), .inr (1, (.ofNat 0), (.ofNat 39)), .inr (1, (.ofNat 0), (.ofNat 40)), .inr (1, (.ofNat 0), (.ofNat 5)), .inr (1, (.ofNat 0), (.ofNat 39)), .inr (1, (.ofNat 0), (.ofNat 40)), .inr (76, (.negSucc 2147483647), (.ofNat 2147483647)), .inr (2, (.negSucc 2147483647), (.ofNat 2147483647)), .inr (1, (.ofNat 0), (.ofNat 5)), .inr (2, (.negSucc 2147483647), (.ofNat 2147483647)), .inr (2, (.negSucc 2147483647), (.ofNat 2147483647)), .inr (1, (.ofNat 0), (.ofNat 5)), .inr (2, (.negSucc 2147483647), (.ofNat 2147483647)), .inr (2, (.negSucc 2147483647), (.ofNat 2147483647)), .inr (1, (.ofNat 0), (.ofNat 5)), .inr (2, (.negSucc 2147483647), (.ofNat 2147483647)), .inr (2, (.negSucc 2147483647), (.ofNat 2147483647)), .inr (1, (.ofNat 0), (.ofNat 5)), .inr (2, (.negSucc 2147483647), (.ofNat 2147483647)), .inr (2, (.negSucc 2147483647), (.ofNat 2147483647)), .inr (1, (.ofNat 0), (.ofNat 5)), .inr (2, (.negSucc 2147483647), (.ofNat 2147483647)), .inr (2, (.negSucc 2147483647), (.ofNat 2147483647)), .inr (1, (.ofNat 0), (.ofNat 5)), .inr (2, (.negSucc 2147483647), (.ofNat 2147483647)), .inr (2, (.negSucc 2147483647), (.ofNat 2147483647)), .inr (1, (.ofNat 0), (.ofNat 5)), .inr (2, (.negSucc 2147483647), (.ofNat 2147483647)), .inr (2, (.negSucc 2147483647), (.ofNat 2147483647)), .inr (1, (.ofNat 0), (.ofNat 5)), .inr (2, (.negSucc 2147483647), (.ofNat 2147483647)), .inr (60, (.ofNat 0), (.ofNat 127)), .inr (18, (.negSucc 2147483647), (.ofNat 2147483647))]),
    zc56,
    zc637,
    zc642,
    zc642,
    zc642,
    .inr (1, .inr (.inl 70)),
    .inr (1, .inr (.inl 8)),
    zc97,
    zc59,
    zc60,
    zc61,
    zc62,
    .inr (1, .inr (.inl 4))], [(1, [1], []), (2, [1], [])]), symsL 30 0, some ((.ofNat 19), []), 0, 0)
noncomputable def c170_0_p1 : PE := (12, [2, 0, 1], (33, [(0, (.ofNat 0), (.ofNat 69)), (1, (.ofNat 0), (.ofNat 69)), (2, (.ofNat 0), (.ofNat 8)), (3, (.negSucc 2147483647), (.ofNat 2147483647)), (4, (.negSucc 2147483647), (.ofNat 2147483647)), (5, (.negSucc 2147483647), (.ofNat 2147483647)), (6, (.negSucc 2147483647), (.ofNat 2147483647)), (7, (.negSucc 2147483647), (.ofNat 2147483647)), (8, (.negSucc 2147483647), (.ofNat 2147483647)), (9, (.negSucc 2147483647), (.ofNat 2147483647)), (10, (.ofNat 1), (.ofNat 4)), (11, (.ofNat 0), (.ofNat 60)), (12, (.ofNat 0), (.ofNat 8)), (13, (.ofNat 0), (.ofNat 6)), (14, (.ofNat 0), (.ofNat 8)), (15, (.ofNat 0), (.ofNat 60)), (16, (.ofNat 0), (.ofNat 60)), (17, (.ofNat 0), (.ofNat 10)), (18, (.negSucc 2147483647), (.ofNat 2147483647)), (19, (.ofNat 0), (.ofNat 1)), (20, (.ofNat 0), (.ofNat 1)), (21, (.ofNat 0), (.ofNat 1)), (22, (.ofNat 0), (.ofNat 1)), (30, (.ofNat 0), (.ofNat 1)), (31, (.ofNat 0), (.ofNat 60)), (32, (.ofNat 0), (.ofNat 60))], [((.ofNat 1), [(19, (.negSucc 0)), (20, (.negSucc 0)), (21, (.negSucc 0)), (22, (.negSucc 0))])], [.inl (false, ((.ofNat 1), [])), .inr (.inl (some 0)), .inl (false, ((.ofNat 0), [(30, (.ofNat 1))]))], [zc635,
    zc795,
    zc56,
    zc637,
    zc642,
    zc642,
    zc642,
    .inr (1, .inr (.inl 70)),
    .inr (1, .inr (.inl 8)),
    zc97,
    zc59,
    zc60,
    zc61,
    zc62,
    .inr (1, .inr (.inl 4))], [(1, [1], []), (2, [1], [])]), symsL 30 0, some ((.ofNat 18), []), 0, 0)
noncomputable def c170_0_p2 : PE := (12, [2, 0, 1], (33, [(0, (.ofNat 0), (.ofNat 69)), (1, (.ofNat 0), (.ofNat 69)), (2, (.ofNat 0), (.ofNat 8)), (3, (.negSucc 2147483647), (.ofNat 2147483647)), (4, (.negSucc 2147483647), (.ofNat 2147483647)), (5, (.negSucc 2147483647), (.ofNat 2147483647)), (6, (.negSucc 2147483647), (.ofNat 2147483647)), (7, (.negSucc 2147483647), (.ofNat 2147483647)), (8, (.negSucc 2147483647), (.ofNat 2147483647)), (9, (.negSucc 2147483647), (.ofNat 2147483647)), (10, (.ofNat 2), (.ofNat 4)), (11, (.ofNat 0), (.ofNat 60)), (12, (.ofNat 0), (.ofNat 8)), (13, (.ofNat 0), (.ofNat 6)), (14, (.ofNat 0), (.ofNat 8)), (15, (.ofNat 0), (.ofNat 60)), (16, (.ofNat 0), (.ofNat 60)), (17, (.ofNat 0), (.ofNat 10)), (18, (.negSucc 2147483647), (.ofNat 2147483647)), (19, (.ofNat 0), (.ofNat 1)), (20, (.ofNat 0), (.ofNat 1)), (21, (.ofNat 0), (.ofNat 1)), (22, (.ofNat 0), (.ofNat 1)), (30, (.negSucc 2147483647), (.ofNat 2147483647)), (31, (.ofNat 0), (.ofNat 60)), (32, (.ofNat 0), (.ofNat 60))], [((.ofNat 1), [(19, (.negSucc 0)), (20, (.negSucc 0)), (21, (.negSucc 0)), (22, (.negSucc 0))])], [.inl (false, ((.ofNat 2), [])), .inr (.inl (some 0)), .inl (false, ((.ofNat 0), [(30, (.ofNat 1))]))], [zc635,
    zc795,
    zc56,
    zc637,
    zc642,
    zc642,
    zc642,
    .inr (1, .inr (.inl 70)),
    .inr (1, .inr (.inl 8)),
    zc97,
    zc59,
    zc60,
    zc61,
    zc62,
    .inr (1, .inr (.inl 4))], [(1, [1], []), (2, [1], [])]), symsL 30 0, some ((.ofNat 17), []), 0, 0)
noncomputable def c170_0_p3 : PE := (12, [2, 0, 1], (33, [(0, (.ofNat 0), (.ofNat 69)), (1, (.ofNat 0), (.ofNat 69)), (2, (.ofNat 0), (.ofNat 8)), (3, (.negSucc 2147483647), (.ofNat 2147483647)), (4, (.negSucc 2147483647), (.ofNat 2147483647)), (5, (.negSucc 2147483647), (.ofNat 2147483647)), (6, (.negSucc 2147483647), (.ofNat 2147483647)), (7, (.negSucc 2147483647), (.ofNat 2147483647)), (8, (.negSucc 2147483647), (.ofNat 2147483647)), (9, (.negSucc 2147483647), (.ofNat 2147483647)), (10, (.ofNat 3), (.ofNat 4)), (11, (.ofNat 0), (.ofNat 60)), (12, (.ofNat 0), (.ofNat 8)), (13, (.ofNat 0), (.ofNat 6)), (14, (.ofNat 0), (.ofNat 8)), (15, (.ofNat 0), (.ofNat 60)), (16, (.ofNat 0), (.ofNat 60)), (17, (.ofNat 0), (.ofNat 10)), (18, (.negSucc 2147483647), (.ofNat 2147483647)), (19, (.ofNat 0), (.ofNat 1)), (20, (.ofNat 0), (.ofNat 1)), (21, (.ofNat 0), (.ofNat 1)), (22, (.ofNat 0), (.ofNat 1)), (30, (.negSucc 2147483647), (.ofNat 2147483647)), (31, (.ofNat 0), (.ofNat 60)), (32, (.ofNat 0), (.ofNat 60))], [((.ofNat 1), [(19, (.negSucc 0)), (20, (.negSucc 0)), (21, (.negSucc 0)), (22, (.negSucc 0))])], [.inl (false, ((.ofNat 3), [])), .inr (.inl (some 0)), .inl (false, ((.ofNat 0), [(30, (.ofNat 1))]))], [zc635,
    zc795,
    zc56,
    zc637,
    zc642,
    zc642,
    zc642,
    .inr (1, .inr (.inl 70)),
    .inr (1, .inr (.inl 8)),
    zc97,
    zc59,
    zc60,
    zc61,
    zc62,
    .inr (1, .inr (.inl 4))], [(1, [1], []), (2, [1], [])]), symsL 30 0, some ((.ofNat 16), []), 0, 0)
noncomputable def c170_0_p4 : PE := (12, [2, 0, 1], (33, [(0, (.ofNat 0), (.ofNat 69)), (1, (.ofNat 0), (.ofNat 69)), (2, (.ofNat 0), (.ofNat 8)), (3, (.negSucc 2147483647), (.ofNat 2147483647)), (4, (.negSucc 2147483647), (.ofNat 2147483647)), (5, (.negSucc 2147483647), (.ofNat 2147483647)), (6, (.negSucc 2147483647), (.ofNat 2147483647)), (7, (.negSucc 2147483647), (.ofNat 2147483647)), (8, (.negSucc 2147483647), (.ofNat 2147483647)), (9, (.negSucc 2147483647), (.ofNat 2147483647)), (10, (.ofNat 4), (.ofNat 4)), (11, (.ofNat 0), (.ofNat 60)), (12, (.ofNat 0), (.ofNat 8)), (13, (.ofNat 0), (.ofNat 6)), (14, (.ofNat 0), (.ofNat 8)), (15, (.ofNat 0), (.ofNat 60)), (16, (.ofNat 0), (.ofNat 60)), (17, (.ofNat 0), (.ofNat 10)), (18, (.negSucc 2147483647), (.ofNat 2147483647)), (19, (.ofNat 0), (.ofNat 1)), (20, (.ofNat 0), (.ofNat 1)), (21, (.ofNat 0), (.ofNat 1)), (22, (.ofNat 0), (.ofNat 1)), (30, (.negSucc 2147483647), (.ofNat 2147483647)), (31, (.ofNat 0), (.ofNat 60)), (32, (.ofNat 0), (.ofNat 60))], [((.ofNat 1), [(19, (.negSucc 0)), (20, (.negSucc 0)), (21, (.negSucc 0)), (22, (.negSucc 0))])], [.inl (false, ((.ofNat 4), [])), .inr (.inl (some 0)), .inl (false, ((.ofNat 0), [(30, (.ofNat 1))]))], [zc635,
    zc795,
    zc56,
    zc637,
    zc642,
    zc642,
    zc642,
    .inr (1, .inr (.inl 70)),
    .inr (1, .inr (.inl 8)),
    zc97,
    zc59,
    zc60,
    zc61,
    zc62,
    .inr (1, .inr (.inl 4))], [(1, [1], []), (2, [1], [])]), symsL 30 0, some ((.ofNat 15), []), 0, 0)
noncomputable def c170_0_p5 : PE := (66, [2, 0, 1], (39, [(0, (.ofNat 0), (.ofNat 69)), (1, (.ofNat 0), (.ofNat 69)), (2, (.ofNat 0), (.ofNat 8)), (3, (.negSucc 2147483647), (.ofNat 2147483647)), (4, (.negSucc 2147483647), (.ofNat 2147483647)), (5, (.negSucc 2147483647), (.ofNat 2147483647)), (6, (.negSucc 2147483647), (.ofNat 2147483647)), (7, (.negSucc 2147483647), (.ofNat 2147483647)), (8, (.negSucc 2147483647), (.ofNat 2147483647)), (9, (.negSucc 2147483647), (.ofNat 2147483647)), (10, (.ofNat 1), (.ofNat 4)), (11, (.ofNat 0), (.ofNat 60)), (12, (.ofNat 0), (.ofNat 8)), (13, (.ofNat 0), (.ofNat 6)), (14, (.ofNat 0), (.ofNat 8)), (15, (.ofNat 0), (.ofNat 60)), (16, (.ofNat 0), (.ofNat 60)), (17, (.ofNat 0), (.ofNat 10)), (18, (.negSucc 2147483647), (.ofNat 2147483647)), (19, (.ofNat 0), (.ofNat 1)), (20, (.ofNat 0), (.ofNat 1)), (21, (.ofNat 0), (.ofNat 1)), (22, (.ofNat 0), (.ofNat 1)), (30, (.negSucc 2147483647), (.ofNat 2147483647)), (31, (.ofNat 0), (.ofNat 8)), (32, (.negSucc 2147483647), (.ofNat 2147483647)), (33, (.ofNat 0), (.ofNat 60)), (34, (.ofNat 0), (.ofNat 60)), (35, (.ofNat 0), (.ofNat 1)), (36, (.ofNat 0), (.ofNat 1)), (37, (.ofNat 0), (.ofNat 1)), (38, (.ofNat 0), (.ofNat 1))], [((.ofNat 1), [(19, (.negSucc 0)), (20, (.negSucc 0)), (21, (.negSucc 0)), (22, (.negSucc 0))]), ((.ofNat 1), [(35, (.negSucc 0)), (36, (.negSucc 0)), (37, (.negSucc 0)), (38, (.negSucc 0))])], [.inl (false, ((.ofNat 0), [])), .inr (.inl (some 0)), .inl (false, ((.ofNat 0), [(30, (.ofNat 1))]))], [zc796,
    zc797,
    zc56,
    zc637,
    zc642,
    zc642,
    zc642,
    .inr (1, .inr (.inl 70)),
    .inr (1, .inr (.inl 8)),
    zc97,
    zc59,
    zc60,
    zc61,
    zc62,
    .inr (1, .inr (.inl 4))], [(1, [1], []), (2, [1], [])]), symsL 30 0, some ((.ofNat 14), []), 0, 0)
noncomputable def c170_0_p6 : PE := (66, [2, 0, 1], (39, [(0, (.ofNat 0), (.ofNat 69)), (1, (.ofNat 0), (.ofNat 69)), (2, (.ofNat 0), (.ofNat 8)), (3, (.negSucc 2147483647), (.ofNat 2147483647)), (4, (.negSucc 2147483647), (.ofNat 2147483647)), (5, (.negSucc 2147483647), (.ofNat 2147483647)), (6, (.negSucc 2147483647), (.ofNat 2147483647)), (7, (.negSucc 2147483647), (.ofNat 2147483647)), (8, (.negSucc 2147483647), (.ofNat 2147483647)), (9, (.negSucc 2147483647), (.ofNat 2147483647)), (10, (.ofNat 1), (.ofNat 4)), (11, (.ofNat 0), (.ofNat 60)), (12, (.ofNat 0), (.ofNat 8)), (13, (.ofNat 0), (.ofNat 6)), (14, (.ofNat 0), (.ofNat 8)), (15, (.ofNat 0), (.ofNat 60)), (16, (.ofNat 0), (.ofNat 60)), (17, (.ofNat 0), (.ofNat 10)), (18, (.negSucc 2147483647), (.ofNat 2147483647)), (19, (.ofNat 0), (.ofNat 1)), (20, (.ofNat 0), (.ofNat 1)), (21, (.ofNat 0), (.ofNat 1)), (22, (.ofNat 0), (.ofNat 1)), (30, (.negSucc 2147483647), (.ofNat 2147483647)), (31, (.ofNat 0), (.ofNat 8)), (32, (.negSucc 2147483647), (.ofNat 2147483647)), (33, (.ofNat 0), (.ofNat 60)), (34, (.ofNat 0), (.ofNat 60)), (35, (.ofNat 0), (.ofNat 1)), (36, (.ofNat 0), (.ofNat 1)), (37, (.ofNat 0), (.ofNat 1)), (38, (.ofNat 0), (.ofNat 1))], [((.ofNat 1), [(19, (.negSucc 0)), (20, (.negSucc 0)), (21, (.negSucc 0)), (22, (.negSucc 0))]), ((.ofNat 1), [(35, (.negSucc 0)), (36, (.negSucc 0)), (37, (.negSucc 0)), (38, (.negSucc 0))])], [.inl (false, ((.ofNat 1), [])), .inr (.inl (some 0)), .inl (false, ((.ofNat 0), [(30, (.ofNat 1))]))], [zc796,
    zc797,
    zc56,
    zc637,
    zc642,
    zc642,
    zc642,
    .inr (1, .inr (.inl 70)),
    .inr (1, .inr (.inl 8)),
    zc97,
    zc59,
    zc60,
    zc61,
    zc62,
    .inr (1, .inr (.inl 4))], [(1, [1], []), (2, [1], [])]), symsL 30 0, some ((.ofNat 13), []), 0, 0)
noncomputable def c170_0_p7 : PE := (66, [2, 0, 1], (39, [(0, (.ofNat 0), (.ofNat 69)), (1, (.ofNat 0), (.ofNat 69)), (2, (.ofNat 0), (.ofNat 8)), (3, (.negSucc 2147483647), (.ofNat 2147483647)), (4, (.negSucc 2147483647), (.ofNat 2147483647)), (5, (.negSucc 2147483647), (.ofNat 2147483647)), (6, (.negSucc 2147483647), (.ofNat 2147483647)), (7, (.negSucc 2147483647), (.ofNat 2147483647)), (8, (.negSucc 2147483647), (.ofNat 2147483647)), (9, (.negSucc 2147483647), (.ofNat 2147483647)), (10, (.ofNat 2), (.ofNat 4)), (11, (.ofNat 0), (.ofNat 60)), (12, (.ofNat 0), (.ofNat 8)), (13, (.ofNat 0), (.ofNat 6)), (14, (.ofNat 0), (.ofNat 8)), (15, (.ofNat 0), (.ofNat 60)), (16, (.ofNat 0), (.ofNat 60)), (17, (.ofNat 0), (.ofNat 10)), (18, (.negSucc 2147483647), (.ofNat 2147483647)), (19, (.ofNat 0), (.ofNat 1)), (20, (.ofNat 0), (.ofNat 1)), (21, (.ofNat 0), (.ofNat 1)), (22, (.ofNat 0), (.ofNat 1)), (30, (.negSucc 2147483647), (.ofNat 2147483647)), (31, (.ofNat 0), (.ofNat 8)), (32, (.negSucc 2147483647), (.ofNat 2147483647)), (33, (.ofNat 0), (.ofNat 60)), (34, (.ofNat 0), (.ofNat 60)), (35, (.ofNat 0), (.ofNat 1)), (36, (.ofNat 0), (.ofNat 1)), (37, (.ofNat 0), (.ofNat 1)), (38, (.ofNat 0), (.ofNat 1))], [((.ofNat 1), [(19, (.negSucc 0)), (20, (.negSucc 0)), (21, (.negSucc 0)), (22, (.negSucc 0))]), ((.ofNat 1), [(35, (.negSucc 0)), (36, (.negSucc 0)), (37, (.negSucc 0)), (38, (.negSucc 0))])], [.inl (false, ((.ofNat 2), [])), .inr (.inl (some 0)), .inl (false, ((.ofNat 0), [(30, (.ofNat 1))]))], [zc796,
    zc797,
    zc56,
    zc637,
    zc642,
    zc642,
    zc642,
    .inr (1, .inr (.inl 70)),
    .inr (1, .inr (.inl 8)),
    zc97,
    zc59,
    zc60,
    zc61,
    zc62,
    .inr (1, .inr (.inl 4))], [(1, [1], []), (2, [1], [])]), symsL 30 0, some ((.ofNat 12), []), 0, 0)
noncomputable def c170_0_p8 : PE := (66, [2, 0, 1], (39, [(0, (.ofNat 0), (.ofNat 69)), (1, (.ofNat 0), (.ofNat 69)), (2, (.ofNat 0), (.ofNat 8)), (3, (.negSucc 2147483647), (.ofNat 2147483647)), (4, (.negSucc 2147483647), (.ofNat 2147483647)), (5, (.negSucc 2147483647), (.ofNat 2147483647)), (6, (.negSucc 2147483647), (.ofNat 2147483647)), (7, (.negSucc 2147483647), (.ofNat 2147483647)), (8, (.negSucc 2147483647), (.ofNat 2147483647)), (9, (.negSucc 2147483647), (.ofNat 2147483647)), (10, (.ofNat 3), (.ofNat 4)), (11, (.ofNat 0), (.ofNat 60)), (12, (.ofNat 0), (.ofNat 8)), (13, (.ofNat 0), (.ofNat 6)), (14, (.ofNat 0), (.ofNat 8)), (15, (.ofNat 0), (.ofNat 60)), (16, (.ofNat 0), (.ofNat 60)), (17, (.ofNat 0), (.ofNat 10)), (18, (.negSucc 2147483647), (.ofNat 2147483647)), (19, (.ofNat 0), (.ofNat 1)), (20, (.ofNat 0), (.ofNat 1)), (21, (.ofNat 0), (.ofNat 1)), (22, (.ofNat 0), (.ofNat 1)), (30, (.negSucc 2147483647), (.ofNat 2147483647)), (31, (.ofNat 0), (.ofNat 8)), (32, (.negSucc 2147483647), (.ofNat 2147483647)), (33, (.ofNat 0), (.ofNat 60)), (34, (.ofNat 0), (.ofNat 60)), (35, (.ofNat 0), (.ofNat 1)), (36, (.ofNat 0), (.ofNat 1)), (37, (.ofNat 0), (.ofNat 1)), (38, (.ofNat 0), (.ofNat 1))], [((.ofNat 1), [(19, (.negSucc 0)), (20, (.negSucc 0)), (21, (.negSucc 0)), (22, (.negSucc 0))]), ((.ofNat 1), [(35, (.negSucc 0)), (36, (.negSucc 0)), (37, (.negSucc 0)), (38, (.negSucc 0))])], [.inl (false, ((.ofNat 3), [])), .inr (.inl (some 0)), .inl (false, ((.ofNat 0), [(30, (.ofNat 1))]))], [zc796,
    zc797,
    zc56,
    zc637,
    zc642,
    zc642,
    zc642,
    .inr (1, .inr (.inl 70)),
    .inr (1, .inr (.inl 8)),
    zc97,
    zc59,
    zc60,
    zc61,
    zc62,
    .inr (1, .inr (.inl 4))], [(1, [1], []), (2, [1], [])]), symsL 30 0, some ((.ofNat 11), []), 0, 0)
noncomputable def c170_0_p9 : PE := (66, [2, 0, 1], (39, [(0, (.ofNat 0), (.ofNat 69)), (1, (.ofNat 0), (.ofNat 69)), (2, (.ofNat 0), (.ofNat 8)), (3, (.negSucc 2147483647), (.ofNat 2147483647)), (4, (.negSucc 2147483647), (.ofNat 2147483647)), (5, (.negSucc 2147483647), (.ofNat 2147483647)), (6, (.negSucc 2147483647), (.ofNat 2147483647)), (7, (.negSucc 2147483647), (.ofNat 2147483647)), (8, (.negSucc 2147483647), (.ofNat 2147483647)), (9, (.negSucc 2147483647), (.ofNat 2147483647)), (10, (.ofNat 4), (.ofNat 4)), (11, (.ofNat 0), (.ofNat 60)), (12, (.ofNat 0), (.ofNat 8)), (13, (.ofNat 0), (.ofNat 6)), (14, (.ofNat 0), (.ofNat 8)), (15, (.ofNat 0), (.ofNat 60)), (16, (.ofNat 0), (.ofNat 60)), (17, (.ofNat 0), (.ofNat 10)), (18, (.negSucc 2147483647), (.ofNat 2147483647)), (19, (.ofNat 0), (.ofNat 1)), (20, (.ofNat 0), (.ofNat 1)), (21, (.ofNat 0), (.ofNat 1)), (22, (.ofNat 0), (.ofNat 1)), (30, (.negSucc 2147483647), (.ofNat 2147483647)), (31, (.ofNat 0), (.ofNat 8)), (32, (.negSucc 2147483647), (.ofNat 2147483647)), (33, (.ofNat 0), (.ofNat 60)), (34, (.ofNat 0), (.ofNat 60)), (35, (.ofNat 0), (.ofNat 1)), (36, (.ofNat 0), (.ofNat 1)), (37, (.ofNat 0), (.ofNat 1)), (38, (.ofNat 0), (.ofNat 1))], [((.ofNat 1), [(19, (.negSucc 0)), (20, (.negSucc 0)), (21, (.negSucc 0)), (22, (.negSucc 0))]), ((.ofNat 1), [(35, (.negSucc 0)), (36, (.negSucc 0)), (37, (.negSucc 0)), (38, (.negSucc 0))])], [.inl (false, ((.ofNat 4), [])), .inr (.inl (some 0)), .inl (false, ((.ofNat 0), [(30, (.ofNat 1))]))], [zc796,
    zc797,
    zc56,
    zc637,
    zc642,
    zc642,
    zc642,
    .inr (1, .inr (.inl 70)),
    .inr (1, .inr (.inl 8)),
    zc97,
    zc59,
    zc60,
    zc61,
    zc62,
    .inr (1, .inr (.inl 4))], [(1, [1], []), (2, [1], [])]), symsL 30 0, some ((.ofNat 10), []), 0, 0)
noncomputable def c170_0_p10 : PE := (125, [2, 0, 1], (41, [(0, (.ofNat 0), (.ofNat 69)), (1, (.ofNat 0), (.ofNat 69)), (2, (.ofNat 0), (.ofNat 8)), (3, (.negSucc 2147483647), (.ofNat 2147483647)), (4, (.negSucc 2147483647), (.ofNat 2147483647)), (5, (.negSucc 2147483647), (.ofNat 2147483647)), (6, (.negSucc 2147483647), (.ofNat 2147483647)), (7, (.negSucc 2147483647), (.ofNat 2147483647)), (8, (.negSucc 2147483647), (.ofNat 2147483647)), (9, (.negSucc 2147483647), (.ofNat 2147483647)), (10, (.ofNat 1), (.ofNat 4)), (11, (.ofNat 0), (.ofNat 60)), (12, (.ofNat 0), (.ofNat 8)), (13, (.ofNat 0), (.ofNat 6)), (14, (.ofNat 0), (.ofNat 8)), (15, (.ofNat 0), (.ofNat 60)), (16, (.ofNat 0), (.ofNat 60)), (17, (.ofNat 0), (.ofNat 10)), (18, (.negSucc 2147483647), (.ofNat 2147483647)), (19, (.ofNat 0), (.ofNat 1)), (20, (.ofNat 0), (.ofNat 1)), (21, (.ofNat 0), (.ofNat 1)), (22, (.ofNat 0), (.ofNat 1)), (30, (.negSucc 2147483647), (.ofNat 2147483647)), (31, (.ofNat 0), (.ofNat 69)), (32, (.ofNat 0), (.ofNat 68)), (33, (.ofNat 0), (.ofNat 8)), (34, (.negSucc 2147483647), (.ofNat 2147483647)), (35, (.ofNat 0), (.ofNat 60)), (36, (.ofNat 0), (.ofNat 60)), (37, (.ofNat 0), (.ofNat 1)), (38, (.ofNat 0), (.ofNat 1)), (39, (.ofNat 0), (.ofNat 1)), (40, (.ofNat 0), (.ofNat 1))], [((.ofNat 1), [(19, (.negSucc 0)), (20, (.negSucc 0)), (21, (.negSucc 0)), (22, (.negSucc 0))]), ((.ofNat 1), [(37, (.negSucc 0)), (38, (.negSucc 0)), (39, (.negSucc 0)), (40, (.negSucc 0))])], [.inl (false, ((.ofNat 0), [])), .inr (.inl (some 0)), .inl (false, ((.ofNat 0), [(30, (.ofNat 1))]))], [zc798,
    zc799,
    zc56,
    zc637,
    zc642,
    zc642,
    zc642,
    .inr (1, .inr (.inl 70)),
    .inr (1, .inr (.inl 8)),
    zc97,
    zc59,
    zc60,
    zc61,
    zc62,
    .inr (1, .inr (.inl 4))], [(1, [1], []), (2, [1], [])]), symsL 30 0, some ((.ofNat 9), []), 0, 0)
noncomputable def c170_0_p11 : PE := (125, [2, 0, 1, 3], (41, [(0, (.ofNat 0), (.ofNat 69)), (1, (.ofNat 0), (.ofNat 69)), (2, (.ofNat 0), (.ofNat 8)), (3, (.negSucc 2147483647), (.ofNat 2147483647)), (4, (.negSucc 2147483647), (.ofNat 2147483647)), (5, (.negSucc 2147483647), (.ofNat 2147483647)), (6, (.negSucc 2147483647), (.ofNat 2147483647)), (7, (.negSucc 2147483647), (.ofNat 2147483647)), (8, (.negSucc 2147483647), (.ofNat 2147483647)), (9, (.negSucc 2147483647), (.ofNat 2147483647)), (10, (.ofNat 1), (.ofNat 4)), (11, (.ofNat 0), (.ofNat 60)), (12, (.ofNat 0), (.ofNat 8)), (13, (.ofNat 0), (.ofNat 6)), (14, (.ofNat 0), (.ofNat 8)), (15, (.ofNat 0), (.ofNat 60)), (16, (.ofNat 0), (.ofNat 60)), (17, (.ofNat 0), (.ofNat 10)), (18, (.negSucc 2147483647), (.ofNat 2147483647)), (19, (.ofNat 0), (.ofNat 1)), (20, (.ofNat 0), (.ofNat 1)), (21, (.ofNat 0), (.ofNat 1)), (22, (.ofNat 0), (.ofNat 1)), (30, (.negSucc 2147483647), (.ofNat 2147483647)), (31, (.ofNat 0), (.ofNat 69)), (32, (.ofNat 0), (.ofNat 68)), (33, (.ofNat 0), (.ofNat 8)), (34, (.negSucc 2147483647), (.ofNat 2147483647)), (35, (.ofNat 0), (.ofNat 60)), (36, (.ofNat 0), (.ofNat 60)), (37, (.ofNat 0), (.ofNat 1)), (38, (.ofNat 0), (.ofNat 1)), (39, (.ofNat 0), (.ofNat 1)), (40, (.ofNat 0), (.ofNat 1))], [((.ofNat 1), [(19, (.negSucc 0)), (20, (.negSucc 0)), (21, (.negSucc 0)), (22, (.negSucc 0))]), ((.ofNat 1), [(37, (.negSucc 0)), (38, (.negSucc 0)), (39, (.negSucc 0)), (40, (.negSucc 0))])], [.inl (false, ((.ofNat 1), [])), .inr (.inl (some 0)), .inl (false, ((.ofNat 0), [(30, (.ofNat 1))])), .inl (false, ((.ofNat 30), []))], [zc798,
    zc799,
    zc56,
    zc637,
    zc642,
    zc642,
    zc642,
    .inr (1, .inr (.inl 70)),
    .inr (1, .inr (.inl 8)),
    zc97,
    zc59,
    zc60,
    zc61,
    zc62,
    .inr (1, .inr (.inl 4))], [(1, [1], []), (2, [1], [])]), symsL 30 0, some ((.ofNat 8), []), 0, 0)
noncomputable def c170_0_p12 : PE := (125, [2, 0, 1, 3], (41, [(0, (.ofNat 0), (.ofNat 69)), (1, (.ofNat 0), (.ofNat 69)), (2, (.ofNat 0), (.ofNat 8)), (3, (.negSucc 2147483647), (.ofNat 2147483647)), (4, (.negSucc 2147483647), (.ofNat 2147483647)), (5, (.negSucc 2147483647), (.ofNat 2147483647)), (6, (.negSucc 2147483647), (.ofNat 2147483647)), (7, (.negSucc 2147483647), (.ofNat 2147483647)), (8, (.negSucc 2147483647), (.ofNat 2147483647)), (9, (.negSucc 2147483647), (.ofNat 2147483647)), (10, (.ofNat 2), (.ofNat 4)), (11, (.ofNat 0), (.ofNat 60)), (12, (.ofNat 0), (.ofNat 8)), (13, (.ofNat 0), (.ofNat 6)), (14, (.ofNat 0), (.ofNat 8)), (15, (.ofNat 0), (.ofNat 60)), (16, (.ofNat 0), (.ofNat 60)), (17, (.ofNat 0), (.ofNat 10)), (18, (.negSucc 2147483647), (.ofNat 2147483647)), (19, (.ofNat 0), (.ofNat 1)), (20, (.ofNat 0), (.ofNat 1)), (21, (.ofNat 0), (.ofNat 1)), (22, (.ofNat 0), (.ofNat 1)), (30, (.negSucc 2147483647), (.ofNat 2147483647)), (31, (.ofNat 0), (.ofNat 69)), (32, (.ofNat 0), (.ofNat 68)), (33, (.ofNat 0), (.ofNat 8)), (34, (.negSucc 2147483647), (.ofNat 2147483647)), (35, (.ofNat 0), (.ofNat 60)), (36, (.ofNat 0), (.ofNat 60)), (37, (.ofNat 0), (.ofNat 1)), (38, (.ofNat 0), (.ofNat 1)), (39, (.ofNat 0), (.ofNat 1)), (40, (.ofNat 0), (.ofNat 1))], [((.ofNat 1), [(19, (.negSucc 0)), (20, (.negSucc 0)), (21, (.negSucc 0)), (22, (.negSucc 0))]), ((.ofNat 1), [(37, (.negSucc 0)), (38, (.negSucc 0)), (39, (.negSucc 0)), (40, (.negSucc 0))])], [.inl (false, ((.ofNat 2), [])), .inr (.inl (some 0)), .inl (false, ((.ofNat 0), [(30, (.ofNat 1))])), .inl (false, ((.ofNat 70), []))], [zc798,
    zc799,
    zc56,
    zc637,
    zc642,
    zc642,
    zc642,
    .inr (1, .inr (.inl 70)),
    .inr (1, .inr (.inl 8)),
    zc97,
    zc59,
    zc60,
    zc61,
    zc62,
    .inr (1, .inr (.inl 4))], [(1, [1], []), (2, [1], [])]), symsL 30 0, some ((.ofNat 7), []), 0, 0)
noncomputable def c170_0_p13 : PE := (125, [2, 0, 1, 3], (41, [(0, (.ofNat 0), (.ofNat 69)), (1, (.ofNat 0), (.ofNat 69)), (2, (.ofNat 0), (.ofNat 8)), (3, (.negSucc 2147483647), (.ofNat 2147483647)), (4, (.negSucc 2147483647), (.ofNat 2147483647)), (5, (.negSucc 2147483647), (.ofNat 2147483647)), (6, (.negSucc 2147483647), (.ofNat 2147483647)), (7, (.negSucc 2147483647), (.ofNat 2147483647)), (8, (.negSucc 2147483647), (.ofNat 2147483647)), (9, (.negSucc 2147483647), (.ofNat 2147483647)), (10, (.ofNat 3), (.ofNat 4)), (11, (.ofNat 0), (.ofNat 60)), (12, (.ofNat 0), (.ofNat 8)), (13, (.ofNat 0), (.ofNat 6)), (14, (.ofNat 0), (.ofNat 8)), (15, (.ofNat 0), (.ofNat 60)), (16, (.ofNat 0), (.ofNat 60)), (17, (.ofNat 0), (.ofNat 10)), (18, (.negSucc 2147483647), (.ofNat 2147483647)), (19, (.ofNat 0), (.ofNat 1)), (20, (.ofNat 0), (.ofNat 1)), (21, (.ofNat 0), (.ofNat 1)), (22, (.ofNat 0), (.ofNat 1)), (30, (.negSucc 2147483647), (.ofNat 2147483647)), (31, (.ofNat 0), (.ofNat 69)), (32, (.ofNat 0), (.ofNat 68)), (33, (.ofNat 0), (.ofNat 8)), (34, (.negSucc 2147483647), (.ofNat 2147483647)), (35, (.ofNat 0), (.ofNat 60)), (36, (.ofNat 0), (.ofNat 60)), (37, (.ofNat 0), (.ofNat 1)), (38, (.ofNat 0), (.ofNat 1)), (39, (.ofNat 0), (.ofNat 1)), (40, (.ofNat 0), (.ofNat 1))], [((.ofNat 1), [(19, (.negSucc 0)), (20, (.negSucc 0)), (21, (.negSucc 0)), (22, (.negSucc 0))]), ((.ofNat 1), [(37, (.negSucc 0)), (38, (.negSucc 0)), (39, (.negSucc 0)), (40, (.negSucc 0))])], [.inl (false, ((.ofNat 3), [])), .inr (.inl (some 0)), .inl (false, ((.ofNat 0), [(30, (.ofNat 1))])), .inl (false, ((.ofNat 110), []))], [zc798,
    zc799,
    zc56,
    zc637,
    zc642,
    zc642,
    zc642,
    .inr (1, .inr (.inl 70)),
    .inr (1, .inr (.inl 8)),
    zc97,
    zc59,
    zc60,
    zc61,
    zc62,
    .inr (1, .inr (.inl 4))], [(1, [1], []), (2, [1], [])]), symsL 30 0, some ((.ofNat 6), []), 0, 0)
noncomputable def c170_0_p14 : PE := (125, [2, 0, 1, 3], (41, [(0, (.ofNat 0), (.ofNat 69)), (1, (.ofNat 0), (.ofNat 69)), (2, (.ofNat 0), (.ofNat 8)), (3, (.negSucc 2147483647), (.ofNat 2147483647)), (4, (.negSucc 2147483647), (.ofNat 2147483647)), (5, (.negSucc 2147483647), (.ofNat 2147483647)), (6, (.negSucc 2147483647), (.ofNat 2147483647)), (7, (.negSucc 2147483647), (.ofNat 2147483647)), (8, (.negSucc 2147483647), (.ofNat 2147483647)), (9, (.negSucc 2147483647), (.ofNat 2147483647)), (10, (.ofNat 4), (.ofNat 4)), (11, (.ofNat 0), (.ofNat 60)), (12, (.ofNat 0), (.ofNat 8)), (13, (.ofNat 0), (.ofNat 6)), (14, (.ofNat 0), (.ofNat 8)), (15, (.ofNat 0), (.ofNat 60)), (16, (.ofNat 0), (.ofNat 60)), (17, (.ofNat 0), (.ofNat 10)), (18, (.negSucc 2147483647), (.ofNat 2147483647)), (19, (.ofNat 0), (.ofNat 1)), (20, (.ofNat 0), (.ofNat 1)), (21, (.ofNat 0), (.ofNat 1)), (22, (.ofNat 0), (.ofNat 1)), (30, (.negSucc 2147483647), (.ofNat 2147483647)), (31, (.ofNat 0), (.ofNat 69)), (32, (.ofNat 0), (.ofNat 68)), (33, (.ofNat 0), (.ofNat 8)), (34, (.negSucc 2147483647), (.ofNat 2147483647)), (35, (.ofNat 0), (.ofNat 60)), (36, (.ofNat 0), (.ofNat 60)), (37, (.ofNat 0), (.ofNat 1)), (38, (.ofNat 0), (.ofNat 1)), (39, (.ofNat 0), (.ofNat 1)), (40, (.ofNat 0), (.ofNat 1))], [((.ofNat 1), [(19, (.negSucc 0)), (20, (.negSucc 0)), (21, (.negSucc 0)), (22, (.negSucc 0))]), ((.ofNat 1), [(37, (.negSucc 0)), (38, (.negSucc 0)), (39, (.negSucc 0)), (40, (.negSucc 0))])], [.inl (false, ((.ofNat 4), [])), .inr (.inl (some 0)), .inl (false, ((.ofNat 0), [(30, (.ofNat 1))])), .inl (false, ((.ofNat 150), []))], [zc798,
    zc799,
    zc56,
    zc637,
    zc642,
    zc642,
    zc642,
    .inr (1, .inr (.inl 70)),
    .inr (1, .inr (.inl 8)),
    zc97,
    zc59,
    zc60,
    zc61,
    zc62,
    .inr (1, .inr (.inl 4))], [(1, [1], []), (2, [1], [])]), symsL 30 0, some ((.ofNat 5), []), 0, 0)
noncomputable def c170_0_pts : List PE := [c170_0_p0, c170_0_p1, c170_0_p2, c170_0_p3, c170_0_p4, c170_0_p5, c170_0_p6, c170_0_p7, c170_0_p8, c170_0_p9, c170_0_p10, c170_0_p11, c170_0_p12, c170_0_p13, c170_0_p14]
set_option maxRecDepth 100000 in
theorem c170_0_k : enCtF c170_0 c170_0_e (c170_0_pts ++ []) (none) (noF, noM, 42535295865117308006708802223809236992, 0, 30) 3000 = true := by decide +kernel
set_option maxRecDepth 100000 in
theorem c170_0_k0 : ptCtF c170_0 c170_0_e (c170_0_pts ++ []) (noF, noM, 42535295865117308006708802223809236992, 0, 30) 3000 c170_0_p0 = true := by decide +kernel
set_option maxRecDepth 100000 in
theorem c170_0_k1 : ptCtF c170_0 c170_0_e (c170_0_pts ++ []) (noF, noM, 42535295865117308006708802223809236992, 0, 30) 3000 c170_0_p1 = true := by decide +kernel
set_option maxRecDepth 100000 in
theorem c170_0_k2 : ptCtF c170_0 c170_0_e (c170_0_pts ++ []) (noF, noM, 42535295865117308006708802223809236992, 0, 30) 3000 c170_0_p2 = true := by decide +kernel
set_option maxRecDepth 100000 in
theorem c170_0_k3 : ptCtF c170_0 c170_0_e (c170_0_pts ++ []) (noF, noM, 42535295865117308006708802223809236992, 0, 30) 3000 c170_0_p3 = true := by decide +kernel
set_option maxRecDepth 100000 in
theorem c170_0_k4 : ptCtF c170_0 c170_0_e (c170_0_pts ++ []) (noF, noM, 42535295865117308006708802223809236992, 0, 30) 3000 c170_0_p4 = true := by decide +kernel
set_option maxRecDepth 100000 in
theorem c170_0_k5 : ptCtF c170_0 c170_0_e (c170_0_pts ++ []) (noF, noM, 42535295865117308006708802223809236992, 0, 30) 3000 c170_0_p5 = true := by decide +kernel
set_option maxRecDepth 100000 in
theorem c170_0_k6 : ptCtF c170_0 c170_0_e (c170_0_pts ++ []) (noF, noM, 42535295865117308006708802223809236992, 0, 30) 3000 c170_0_p6 = true := by decide +kernel
set_option maxRecDepth 100000 in
theorem c170_0_k7 : ptCtF c170_0 c170_0_e (c170_0_pts ++ []) (noF, noM, 42535295865117308006708802223809236992, 0, 30) 3000 c170_0_p7 = true := by decide +kernel
set_option maxRecDepth 100000 in
theorem c170_0_k8 : ptCtF c170_0 c170_0_e (c170_0_pts ++ []) (noF, noM, 42535295865117308006708802223809236992, 0, 30) 3000 c170_0_p8 = true := by decide +kernel
set_option maxRecDepth 100000 in
theorem c170_0_k9 : ptCtF c170_0 c170_0_e (c170_0_pts ++ []) (noF, noM, 42535295865117308006708802223809236992, 0, 30) 3000 c170_0_p9 = true := by decide +kernel
set_option maxRecDepth 100000 in
theorem c170_0_k10 : ptCtF c170_0 c170_0_e (c170_0_pts ++ []) (noF, noM, 42535295865117308006708802223809236992, 0, 30) 3000 c170_0_p10 = true := by decide +kernel
set_option maxRecDepth 100000 in
theorem c170_0_k11 : ptCtF c170_0 c170_0_e (c170_0_pts ++ []) (noF, noM, 42535295865117308006708802223809236992, 0, 30) 3000 c170_0_p11 = true := by decide +kernel
set_option maxRecDepth 100000 in
theorem c170_0_k12 : ptCtF c170_0 c170_0_e (c170_0_pts ++ []) (noF, noM, 42535295865117308006708802223809236992, 0, 30) 3000 c170_0_p12 = true := by decide +kernel
set_option maxRecDepth 100000 in
theorem c170_0_k13 : ptCtF c170_0 c170_0_e (c170_0_pts ++ []) (noF, noM, 42535295865117308006708802223809236992, 0, 30) 3000 c170_0_p13 = true := by decide +kernel
set_option maxRecDepth 100000 in
theorem c170_0_k14 : ptCtF c170_0 c170_0_e (c170_0_pts ++ []) (noF, noM, 42535295865117308006708802223809236992, 0, 30) 3000 c170_0_p14 = true := by decide +kernel
set_option maxRecDepth 100000 in
theorem c170_0_v : ValidC PPk c170_0 := ct_ok fpk ⟨noF_ok, noM_ok⟩ (d := 5) (ext := []) (pts := c170_0_pts) (env := c170_0_e) rfl (List.forall_mem_cons.mpr ⟨⟨c161_0_v, Nat.le_of_ble_eq_true rfl⟩, List.forall_mem_cons.mpr ⟨⟨c171_0_v, Nat.le_of_ble_eq_true rfl⟩, List.forall_mem_cons.mpr ⟨⟨c172_0_v, Nat.le_of_ble_eq_true rfl⟩, List.forall_mem_cons.mpr ⟨⟨c175_0_v, Nat.le_of_ble_eq_true rfl⟩, List.forall_mem_cons.mpr ⟨⟨c175_1_v, Nat.le_of_ble_eq_true rfl⟩, List.forall_mem_cons.mpr ⟨⟨c175_2_v, Nat.le_of_ble_eq_true rfl⟩, List.forall_mem_cons.mpr ⟨⟨c175_3_v, Nat.le_of_ble_eq_true rfl⟩, List.forall_mem_cons.mpr ⟨⟨c176_0_v, Nat.le_of_ble_eq_true rfl⟩, List.forall_mem_cons.mpr ⟨⟨c180_0_v, Nat.le_of_ble_eq_true rfl⟩, List.forall_mem_cons.mpr ⟨⟨c183_0_v, Nat.le_of_ble_eq_true rfl⟩, List.forall_mem_cons.mpr ⟨⟨c189_0_v, Nat.le_of_ble_eq_true rfl⟩, List.forall_mem_cons.mpr ⟨⟨c190_0_v, Nat.le_of_ble_eq_true rfl⟩, List.forall_mem_cons.mpr ⟨⟨c191_0_v, Nat.le_of_ble_eq_true rfl⟩, List.forall_mem_cons.mpr ⟨⟨c192_0_v, Nat.le_of_ble_eq_true rfl⟩, fun _ h => (by cases h)⟩⟩⟩⟩⟩⟩⟩⟩⟩⟩⟩⟩⟩⟩) ext_nil (fun q h => (by cases h)) (enF c170_0_k) (List.forall_mem_cons.mpr ⟨ptF c170_0_k0, List.forall_mem_cons.mpr ⟨ptF c170_0_k1, List.forall_mem_cons.mpr ⟨ptF c170_0_k2, List.forall_mem_cons.mpr ⟨ptF c170_0_k3, List.forall_mem_cons.mpr ⟨ptF c170_0_k4, List.forall_mem_cons.mpr ⟨ptF c170_0_k5, List.forall_mem_cons.mpr ⟨ptF c170_0_k6, List.forall_mem_cons.mpr ⟨ptF c170_0_k7, List.forall_mem_cons.mpr ⟨ptF c170_0_k8, List.forall_mem_cons.mpr ⟨ptF c170_0_k9, List.forall_mem_cons.mpr ⟨ptF c170_0_k10, List.forall_mem_cons.mpr ⟨ptF c170_0_k11, List.forall_mem_cons.mpr ⟨ptF c170_0_k12, List.forall_mem_cons.mpr ⟨ptF c170_0_k13, List.forall_mem_cons.mpr ⟨ptF c170_0_k14, fun _ h => (by cases h)⟩⟩⟩⟩⟩⟩⟩⟩⟩⟩⟩⟩⟩⟩⟩)

def zc800 : AC := .inl (12, [.inr (.inl (some 1)), .inr (.inl (some 2)), .inr (.inl (some 3)), .inl (false, ((.ofNat 0), [(33, (.ofNat 1))])), .inr (.inl (some 4)), .inr (.inl (some 5)), .inl (false, ((.ofNat 0), [(32, (.ofNat 1))])), .inr (.inl (some 6)), .inr (.inl (some 7)), .inl (false, ((.ofNat 0), [(34, (.ofNat 1))])), .inr (.inl (some 8)), .inl (false, ((.ofNat 0), [(35, (.ofNat 1))])), .inr (.inl (some 9)), .inr (.inl (some 10)), .inr (.inl (some 11)), .inr (.inl (some 12)), .inl (false, ((.ofNat 0), [(5, (.ofNat 1))])), .inl (false, ((.ofNat 0), [(6, (.ofNat 1))])), .inl (false, ((.ofNat 0), [(7, (.ofNat 1))])), .inr (.inl (some 13)), .inl (false, ((.ofNat 0), [(8, (.ofNat 1))])), .inl (false, ((.ofNat 0), [(9, (.ofNat 1))])), .inl (false, ((.ofNat 0), [(10, (.ofNat 1))])), .inr (.inl (some 14))])
def zc801 : AC := .inr (0, .inl [.inl ((.ofNat 0), [(11, (.ofNat 1))]), .inl ((.ofNat 0), [(36, (.ofNat 1))]), .inl ((.ofNat 0), [(13, (.ofNat 1))]), .inl ((.ofNat 0), [(14, (.ofNat 1))]), .inl ((.ofNat 0), [(15, (.ofNat 1))]), .inl ((.ofNat 0), [(16, (.ofNat 1))]), .inl ((.ofNat 0), [(37, (.ofNat 1))]), .inl ((.ofNat 0), [(18, (.ofNat 1))]), .inr (5, (.negSucc 2147483647), (.ofNat 2147483647)), .inr (1, (.ofNat 0), (.ofNat 3)), .inl ((.ofNat 0), [(38, (.ofNat 1))]), .inr (2, (.negSucc 2147483647), (.ofNat 2147483647)), .inr (1, (.ofNat 1), (.ofNat 1000)), .inr (1, (.ofNat 0), (.ofNat 50)), .inr (23, (.negSucc 2147483647), (.ofNat 2147483647)), .inl ((.ofNat 0), [(39, (.ofNat 1))]), .inr (39, (.negSucc 2147483647), (.ofNat 2147483647)), .inl ((.ofNat 0), [(40, (.ofNat 1))]), .inr (39, (.negSucc 2147483647), (.ofNat 2147483647)), .inl ((.ofNat 0), [(41, (.ofNat 1))]), .inr (39, (.negSucc 2147483647), (.ofNat 2147483647)), .inl ((.ofNat 0), [(42, (.ofNat 1))]), .inr (517, (.negSucc 2147483647), (.ofNat 2147483647)), .inr (12, (.ofNat 0), (.ofNat 60)), .inr (1, (.ofNat 0), (.ofNat 5)), .inr (1, (.ofNat 0), (.ofNat 39)), .inr (1, (.ofNat 0), (.ofNat 40)), .inr (1, (.ofNat 0), (.ofNat 5)), .inr (1, (.ofNat 0), (.ofNat 39)), .inr (1, (.ofNat 0), (.ofNat 40)), .inr (1, (.ofNat 0), (.ofNat 5)), .inr (1, (.ofNat 0), (.ofNat 39)), .inr (1, (.ofNat 0), (.ofNat 40)), .inr (1, (.ofNat 0), (.ofNat 5)), .inr (1, (.ofNat 0), (.ofNat 39)), .inr (1, (.ofNat 0), (.ofNat 40)), .inr (1, (.ofNat 0), (.ofNat 5)), .inr (1, (.ofNat 0), (.ofNat 39)), .inr (1, (.ofNat 0), (.ofNat 40)), .inr (1, (.ofNat 0), (.ofNat 5)), .inr (1, (.ofNat 0), (.ofNat 39)), .inr (1, (.ofNat 0), (.ofNat 40)), .inr (1, (.ofNat 0), (.ofNat 5)), .inr (1, (.ofNat 0), (.ofNat 39)), .inr (1, (.ofNat 0), (.ofNat 40)), .inr (1, (.ofNat 0), (.ofNat 5)), .inr (1, (.ofNat 0), (.ofNat 39)), .inr (1, (.ofNat 0), (.ofNat 40)), .inr (78, (.negSucc 2147483647), (.ofNat 2147483647)), .inr (1, (.ofNat 0), (.ofNat 5)), .inr (4, (.negSucc 2147483647), (.ofNat 2147483647)), .inr (1, (.ofNat 0), (.ofNat 5)), .inr (4, (.negSucc 2147483647), (.ofNat 2147483647)), .inr (1, (.ofNat 0), (.ofNat 5)), .inr (4, (.negSucc 2147483647), (.ofNat 2147483647)), .inr (1, (.ofNat 0), (.ofNat 5)), .inr (4, (.negSucc 2147483647), (.ofNat 2147483647)), .inr (1, (.ofNat 0), (.ofNat 5)), .inr (4, (.negSucc 2147483647), (.ofNat 2147483647)), .inr (1, (.ofNat 0), (.ofNat 5)), .inr (4, (.negSucc 2147483647), (.ofNat 2147483647)), .inr (1, (.ofNat 0), (.ofNat 5)), .inr (4, (.negSucc 2147483647), (.ofNat 2147483647)), .inr (1, (.ofNat 0), (.ofNat 5)), .inr (2, (.negSucc 2147483647), (.ofNat 2147483647)), .inr (60, (.ofNat 0), (.ofNat 127)), .inr (18, (.negSucc 2147483647), (.ofNat 2147483647))])
noncomputable def c169_0 : Ct := (169, 7, (31, [(0, (.negSucc 2147483647), (.ofNat 2147483647)), (1, (.ofNat 0), (.ofNat 69)), (2, (.ofNat 0), (.ofNat 69)), (3, (.ofNat 0), (.ofNat 8)), (4, (.negSucc 2147483647), (.ofNat 2147483647)), (5, (.negSucc 2147483647), (.ofNat 2147483647)), (6, (.negSucc 2147483647), (.ofNat 2147483647)), (7, (.negSucc 2147483647), (.ofNat 2147483647)), (8, (.negSucc 2147483647), (.ofNat 2147483647)), (9, (.negSucc 2147483647), (.ofNat 2147483647)), (10, (.negSucc 2147483647), (.ofNat 2147483647)), (11, (.ofNat 1), (.ofNat 4)), (12, (.ofNat 0), (.ofNat 60)), (13, (.ofNat 0), (.ofNat 8)), (14, (.ofNat 0), (.ofNat 6)), (15, (.ofNat 0), (.ofNat 8)), (16, (.ofNat 0), (.ofNat 60)), (17, (.ofNat 0), (.ofNat 60)), (18, (.ofNat 0), (.ofNat 10)), (19, (.negSucc 2147483647), (.ofNat 2147483647)), (20, (.ofNat 0), (.ofNat 1)), (21, (.ofNat 0), (.ofNat 1)), (22, (.ofNat 0), (.ofNat 1)), (23, (.ofNat 0), (.ofNat 1))], [((.ofNat 1), [(20, (.negSucc 0)), (21, (.negSucc 0)), (22, (.negSucc 0)), (23, (.negSucc 0))])], [.inr (.inl (some 0)), .inl (false, ((.ofNat 0), [(0, (.ofNat 1))]))], [zc620,
    zc621,
    zc57,
    zc622,
    zc642,
    zc642,
    zc642,
    .inr (1, .inr (.inl 70)),
    .inr (1, .inr (.inl 8)),
    zc59,
    zc60,
    zc61,
    zc62,
    zc63,
    .inr (1, .inr (.inl 4))], [(1, [1], []), (2, [1], [])]),
  [((43, [(31, (.negSucc 2147483647), (.ofNat 2147483647)), (32, (.ofNat 0), (.ofNat 69)), (33, (.ofNat 0), (.ofNat 69)), (34, (.ofNat 0), (.ofNat 8)), (35, (.negSucc 2147483647), (.ofNat 2147483647)), (36, (.ofNat 0), (.ofNat 60)), (37, (.ofNat 0), (.ofNat 60)), (38, (.negSucc 2147483647), (.ofNat 2147483647)), (39, (.ofNat 0), (.ofNat 1)), (40, (.ofNat 0), (.ofNat 1)), (41, (.ofNat 0), (.ofNat 1)), (42, (.ofNat 0), (.ofNat 1))], [((.ofNat 1), [(39, (.negSucc 0)), (40, (.negSucc 0)), (41, (.negSucc 0)), (42, (.negSucc 0))])], [.inl (false, ((.ofNat 0), [(31, (.ofNat 1))]))], [zc800,
    zc801,
    zc57,
    zc622,
    zc642,
    zc642,
    zc642,
    .inr (1, .inr (.inl 70)),
    .inr (1, .inr (.inl 8)),
    zc59,
    zc60,
    zc61,
    zc62,
    zc63,
    .inr (1, .inr (.inl 4))], [(1, [1], []), (2, [1], [])]), 0, 0)])
noncomputable def c169_0_e : List Ct := [c145_0, c170_0]
noncomputable def c169_0_p0 : PE := (16, [0, 1, 2], (43, [(0, (.ofNat 1), (.ofNat 100)), (1, (.ofNat 0), (.ofNat 69)), (2, (.ofNat 0), (.ofNat 69)), (3, (.ofNat 0), (.ofNat 8)), (4, (.negSucc 2147483647), (.ofNat 2147483647)), (5, (.negSucc 2147483647), (.ofNat 2147483647)), (6, (.negSucc 2147483647), (.ofNat 2147483647)), (7, (.negSucc 2147483647), (.ofNat 2147483647)), (8, (.negSucc 2147483647), (.ofNat 2147483647)), (9, (.negSucc 2147483647), (.ofNat 2147483647)), (10, (.negSucc 2147483647), (.ofNat 2147483647)), (11, (.ofNat 1), (.ofNat 4)), (12, (.ofNat 0), (.ofNat 60)), (13, (.ofNat 0), (.ofNat 8)), (14, (.ofNat 0), (.ofNat 6)), (15, (.ofNat 0), (.ofNat 8)), (16, (.ofNat 0), (.ofNat 60)), (17, (.ofNat 0), (.ofNat 60)), (18, (.ofNat 0), (.ofNat 10)), (19, (.negSucc 2147483647), (.ofNat 2147483647)), (20, (.ofNat 0), (.ofNat 1)), (21, (.ofNat 0), (.ofNat 1)), (22, (.ofNat 0), (.ofNat 1)), (23, (.ofNat 0), (.ofNat 1)), (31, (.ofNat 0), (.ofNat 100)), (32, (.ofNat 0), (.ofNat 69)), (33, (.ofNat 0), (.ofNat 69)), (34, (.ofNat 0), (.ofNat 8)), (35, (.negSucc 2147483647), (.ofNat 2147483647)), (36, (.ofNat 0), (.ofNat 60)), (37, (.ofNat 0), (.ofNat 60)), (38, (.negSucc 2147483647), (.ofNat 2147483647)), (39, (.ofNat 0), (.ofNat 1)), (40, (.ofNat 0), (.ofNat 1)), (41, (.ofNat 0), (.ofNat 1)), (42, (.ofNat 0), (.ofNat 1))], [((.ofNat 1), [(20, (.negSucc 0)), (21, (.negSucc 0)), (22, (.negSucc 0)), (23, (.negSucc 0))]), ((.ofNat 1), [(39, (.negSucc 0)), (40, (.negSucc 0)), (41, (.negSucc 0)), (42, (.negSucc 0))])], [.inr (.inl (some 0)), .inl (false, ((.ofNat 0), [(0, (.ofNat 1))])), .inl (false, ((.ofNat 0), [(31, (.ofNat 1))]))], [zc800,
    zc801,
    zc57,
    zc622,
    zc642,
    zc642,
    zc642,
    .inr (1, .inr (.inl 70)),
    .inr (1, .inr (.inl 8)),
    zc59,
    zc60,
    zc61,
    zc62,
    zc63,
    .inr (1, .inr (.inl 4))], [(1, [1], []), (2, [1], [])]), symsL 31 0, some ((.ofNat 201), [(31, (.negSucc 0))]), 0, 0)
noncomputable def c169_0_pts : List PE := [c169_0_p0]
set_option maxRecDepth 100000 in
theorem c169_0_k : enCtF c169_0 c169_0_e (c169_0_pts ++ []) (none) (noF, noM, 65536, 0, 31) 3000 = true := by decide +kernel
set_option maxRecDepth 100000 in
theorem c169_0_k0 : ptCtF c169_0 c169_0_e (c169_0_pts ++ []) (noF, noM, 65536, 0, 31) 3000 c169_0_p0 = true := by decide +kernel
set_option maxRecDepth 100000 in
theorem c169_0_v : ValidC PPk c169_0 := ct_ok fpk ⟨noF_ok, noM_ok⟩ (d := 6) (ext := []) (pts := c169_0_pts) (env := c169_0_e) rfl (List.forall_mem_cons.mpr ⟨⟨c145_0_v, Nat.le_of_ble_eq_true rfl⟩, List.forall_mem_cons.mpr ⟨⟨c170_0_v, Nat.le_of_ble_eq_true rfl⟩, fun _ h => (by cases h)⟩⟩) ext_nil (fun q h => (by cases h)) (enF c169_0_k) (List.forall_mem_cons.mpr ⟨ptF c169_0_k0, fun _ h => (by cases h)⟩)

noncomputable def c197_0 : Ct := (197, 3, (34, [(0, (.ofNat 0), (.ofNat 7)), (1, (.ofNat 0), (.ofNat 69)), (2, (.ofNat 0), (.ofNat 69)), (3, (.ofNat 0), (.ofNat 8)), (4, (.negSucc 2147483647), (.ofNat 2147483647)), (5, (.negSucc 2147483647), (.ofNat 2147483647)), (6, (.negSucc 2147483647), (.ofNat 2147483647)), (7, (.negSucc 2147483647), (.ofNat 2147483647)), (8, (.negSucc 2147483647), (.ofNat 2147483647)), (9, (.negSucc 2147483647), (.ofNat 2147483647)), (10, (.negSucc 2147483647), (.ofNat 2147483647)), (11, (.ofNat 1), (.ofNat 4)), (12, (.ofNat 0), (.ofNat 60)), (13, (.ofNat 0), (.ofNat 8)), (14, (.ofNat 0), (.ofNat 6)), (15, (.ofNat 0), (.ofNat 8)), (16, (.ofNat 0), (.ofNat 60)), (17, (.ofNat 0), (.ofNat 60)), (18, (.ofNat 0), (.ofNat 10)), (19, (.negSucc 2147483647), (.ofNat 2147483647)), (20, (.ofNat 0), (.ofNat 1)), (21, (.ofNat 0), (.ofNat 1)), (22, (.ofNat 0), (.ofNat 1)), (23, (.ofNat 0), (.ofNat 1))], [((.ofNat 1), [(20, (.negSucc 0)), (21, (.negSucc 0)), (22, (.negSucc 0)), (23, (.negSucc 0))])], [.inr (.inl (some 0)), .inl (false, ((.ofNat 0), [(0, (.ofNat 1))]))], [zc620,
    zc621,
    zc57,
    zc622,
    zc59,
    zc60,
    zc61,
    .inr (1, .inr (.inl 70)),
    .inr (1, .inr (.inl 8)),
    zc62,
    zc63,
    zc30,
    zc31,
    zc32,
    .inr (1, .inr (.inl 4))], [(1, [1], []), (2, [1], [])]),
  [((35, [(34, (.negSucc 2147483647), (.ofNat 2147483647))], [], [.inl (false, ((.ofNat 0), [(34, (.ofNat 1))]))], [zc620,
    zc621,
    zc57,
    zc622,
    zc59,
    zc60,
    zc61,
    .inr (1, .inr (.inl 70)),
    .inr (1, .inr (.inl 8)),
    zc62,
    zc63,
    zc30,
    zc31,
    zc32,
    .inr (1, .inr (.inl 4))], [(1, [1], []), (2, [1], [])]), 0, 0)])
noncomputable def c197_0_e : List Ct := [c188_0]
noncomputable def c197_0_pts : List PE := []
set_option maxRecDepth 100000 in
theorem c197_0_k : enCtF c197_0 c197_0_e (c197_0_pts ++ []) (none) noH 3000 = true := by decide +kernel
set_option maxRecDepth 100000 in
theorem c197_0_v : ValidC PPk c197_0 := ct_ok fpk noH_ok (d := 2) (ext := []) (pts := c197_0_pts) (env := c197_0_e) rfl (List.forall_mem_cons.mpr ⟨⟨c188_0_v, Nat.le_of_ble_eq_true rfl⟩, fun _ h => (by cases h)⟩) ext_nil (fun q h => (by cases h)) (enF c197_0_k) (fun _ h => (by cases h))

noncomputable def c196_0 : Ct := (196, 4, (34, [(0, (.negSucc 2147483647), (.ofNat 2147483647)), (1, (.ofNat 0), (.ofNat 69)), (2, (.ofNat 0), (.ofNat 69)), (3, (.ofNat 0), (.ofNat 8)), (4, (.negSucc 2147483647), (.ofNat 2147483647)), (5, (.negSucc 2147483647), (.ofNat 2147483647)), (6, (.negSucc 2147483647), (.ofNat 2147483647)), (7, (.negSucc 2147483647), (.ofNat 2147483647)), (8, (.negSucc 2147483647), (.ofNat 2147483647)), (9, (.negSucc 2147483647), (.ofNat 2147483647)), (10, (.negSucc 2147483647), (.ofNat 2147483647)), (11, (.ofNat 1), (.ofNat 4)), (12, (.ofNat 0), (.ofNat 60)), (13, (.ofNat 0), (.ofNat 8)), (14, (.ofNat 0), (.ofNat 6)), (15, (.ofNat 0), (.ofNat 8)), (16, (.ofNat 0), (.ofNat 60)), (17, (.ofNat 0), (.ofNat 60)), (18, (.ofNat 0), (.ofNat 10)), (19, (.negSucc 2147483647), (.ofNat 2147483647)), (20, (.ofNat 0), (.ofNat 1)), (21, (.ofNat 0), (.ofNat 1)), (22, (.ofNat 0), (.ofNat 1)), (23, (.ofNat 0), (.ofNat 1))], [((.ofNat 1), [(20, (.negSucc 0)), (21, (.negSucc 0)), (22, (.negSucc 0)), (23, (.negSucc 0))])], [.inr (.inl (some 0)), .inl (false, ((.ofNat 0), [(0, (.ofNat 1))]))], [zc620,
    zc621,
    zc57,
    zc622,
    zc59,
    zc60,
    zc61,
    .inr (1, .inr (.inl 70)),
    .inr (1, .inr (.inl 8)),
    zc62,
    zc63,
    zc30,
    zc31,
    zc32,
    .inr (1, .inr (.inl 4))], [(1, [1], []), (2, [1], [])]),
  [((35, [(34, (.negSucc 2147483647), (.ofNat 2147483647))], [], [.inl (false, ((.ofNat 0), [(34, (.ofNat 1))]))], [zc620,
    zc621,
    zc57,
    zc622,
    zc59,
    zc60,
    zc61,
    .inr (1, .inr (.inl 70)),
    .inr (1, .inr (.inl 8)),
    zc62,
    zc63,
    zc30,
    zc31,
    zc32,
    .inr (1, .inr (.inl 4))], [(1, [1], []), (2, [1], [])]), 0, 0)])
noncomputable def c196_0_e : List Ct := [c145_0, c197_0]
noncomputable def c196_0_pts : List PE := []
set_option maxRecDepth 100000 in
theorem c196_0_k : enCtF c196_0 c196_0_e (c196_0_pts ++ []) (none) noH 3000 = true := by decide +kernel
set_option maxRecDepth 100000 in
theorem c196_0_v : ValidC PPk c196_0 := ct_ok fpk noH_ok (d := 3) (ext := []) (pts := c196_0_pts) (env := c196_0_e) rfl (List.forall_mem_cons.mpr ⟨⟨c145_0_v, Nat.le_of_ble_eq_true rfl⟩, List.forall_mem_cons.mpr ⟨⟨c197_0_v, Nat.le_of_ble_eq_true rfl⟩, fun _ h => (by cases h)⟩⟩) ext_nil (fun q h => (by cases h)) (enF c196_0_k) (fun _ h => (by cases h))

noncomputable def c198_0 : Ct := (198, 3, (35, [(0, (.negSucc 2147483647), (.ofNat 2147483647)), (1, (.negSucc 2147483647), (.ofNat 2147483647)), (2, (.ofNat 0), (.ofNat 69)), (3, (.ofNat 0), (.ofNat 69)), (4, (.ofNat 0), (.ofNat 8)), (5, (.negSucc 2147483647), (.ofNat 2147483647)), (6, (.negSucc 2147483647), (.ofNat 2147483647)), (7, (.negSucc 2147483647), (.ofNat 2147483647)), (8, (.negSucc 2147483647), (.ofNat 2147483647)), (9, (.negSucc 2147483647), (.ofNat 2147483647)), (10, (.negSucc 2147483647), (.ofNat 2147483647)), (11, (.negSucc 2147483647), (.ofNat 2147483647)), (12, (.ofNat 1), (.ofNat 4)), (13, (.ofNat 0), (.ofNat 60)), (14, (.ofNat 0), (.ofNat 8)), (15, (.ofNat 0), (.ofNat 6)), (16, (.ofNat 0), (.ofNat 8)), (17, (.ofNat 0), (.ofNat 60)), (18, (.ofNat 0), (.ofNat 60)), (19, (.ofNat 0), (.ofNat 10)), (20, (.negSucc 2147483647), (.ofNat 2147483647)), (21, (.ofNat 0), (.ofNat 1)), (22, (.ofNat 0), (.ofNat 1)), (23, (.ofNat 0), (.ofNat 1)), (24, (.ofNat 0), (.ofNat 1))], [((.ofNat 1), [(21, (.negSucc 0)), (22, (.negSucc 0)), (23, (.negSucc 0)), (24, (.negSucc 0))])], [.inr (.inl (some 0)), .inl (false, ((.ofNat 0), [(0, (.ofNat 1))])), .inl (false, ((.ofNat 0), [(1, (.ofNat 1))]))], [zc638,
    zc639,
    zc97,
    zc640,
    zc60,
    zc61,
    zc62,
    .inr (1, .inr (.inl 70)),
    .inr (1, .inr (.inl 8)),
    zc63,
    zc30,
    zc31,
    zc32,
    zc33,
    .inr (1, .inr (.inl 4))], [(1, [1], []), (2, [1], [])]),
  [((36, [(35, (.negSucc 2147483647), (.ofNat 2147483647))], [], [.inl (false, ((.ofNat 0), [(35, (.ofNat 1))]))], [zc638,
    zc639,
    zc97,
    zc640,
    zc60,
    zc61,
    zc62,
    .inr (1, .inr (.inl 70)),
    .inr (1, .inr (.inl 8)),
    zc63,
    zc30,
    zc31,
    zc32,
    zc33,
    .inr (1, .inr (.inl 4))], [(1, [1], []), (2, [1], [])]), 0, 0)])
noncomputable def c198_0_e : List Ct := [c145_0, c173_0, c175_12]
noncomputable def c198_0_pts : List PE := []
set_option maxRecDepth 100000 in
theorem c198_0_k : enCtF c198_0 c198_0_e (c198_0_pts ++ []) (none) noH 3000 = true := by decide +kernel
set_option maxRecDepth 100000 in
theorem c198_0_v : ValidC PPk c198_0 := ct_ok fpk noH_ok (d := 2) (ext := []) (pts := c198_0_pts) (env := c198_0_e) rfl (List.forall_mem_cons.mpr ⟨⟨c145_0_v, Nat.le_of_ble_eq_true rfl⟩, List.forall_mem_cons.mpr ⟨⟨c173_0_v, Nat.le_of_ble_eq_true rfl⟩, List.forall_mem_cons.mpr ⟨⟨c175_12_v, Nat.le_of_ble_eq_true rfl⟩, fun _ h => (by cases h)⟩⟩⟩) ext_nil (fun q h => (by cases h)) (enF c198_0_k) (fun _ h => (by cases h))

noncomputable def c199_0 : Ct := (199, 3, (35, [(0, (.negSucc 2147483647), (.ofNat 2147483647)), (1, (.negSucc 2147483647), (.ofNat 2147483647)), (2, (.ofNat 0), (.ofNat 69)), (3, (.ofNat 0), (.ofNat 69)), (4, (.ofNat 0), (.ofNat 8)), (5, (.negSucc 2147483647), (.ofNat 2147483647)), (6, (.negSucc 2147483647), (.ofNat 2147483647)), (7, (.negSucc 2147483647), (.ofNat 2147483647)), (8, (.negSucc 2147483647), (.ofNat 2147483647)), (9, (.negSucc 2147483647), (.ofNat 2147483647)), (10, (.negSucc 2147483647), (.ofNat 2147483647)), (11, (.negSucc 2147483647), (.ofNat 2147483647)), (12, (.ofNat 1), (.ofNat 4)), (13, (.ofNat 0), (.ofNat 60)), (14, (.ofNat 0), (.ofNat 8)), (15, (.ofNat 0), (.ofNat 6)), (16, (.ofNat 0), (.ofNat 8)), (17, (.ofNat 0), (.ofNat 60)), (18, (.ofNat 0), (.ofNat 60)), (19, (.ofNat 0), (.ofNat 10)), (20, (.negSucc 2147483647), (.ofNat 2147483647)), (21, (.ofNat 0), (.ofNat 1)), (22, (.ofNat 0), (.ofNat 1)), (23, (.ofNat 0), (.ofNat 1)), (24, (.ofNat 0), (.ofNat 1))], [((.ofNat 1), [(21, (.negSucc 0)), (22, (.negSucc 0)), (23, (.negSucc 0)), (24, (.negSucc 0))])], [.inr (.inl (some 0)), .inl (false, ((.ofNat 0), [(0, (.ofNat 1))])), .inl (false, ((.ofNat 0), [(1, (.ofNat 1))]))], [zc638,
    zc639,
    zc97,
    zc640,
    zc60,
    zc61,
    zc62,
    .inr (1, .inr (.inl 70)),
    .inr (1, .inr (.inl 8)),
    zc63,
    zc30,
    zc31,
    zc32,
    zc33,
    .inr (1, .inr (.inl 4))], [(1, [1], []), (2, [1], [])]),
  [((36, [(35, (.negSucc 2147483647), (.ofNat 2147483647))], [], [.inl (false, ((.ofNat 0), [(35, (.ofNat 1))]))], [zc638,
    zc639,
    zc97,
    zc640,
    zc60,
    zc61,
    zc62,
    .inr (1, .inr (.inl 70)),
    .inr (1, .inr (.inl 8)),
    zc63,
    zc30,
    zc31,
    zc32,
    zc33,
    .inr (1, .inr (.inl 4))], [(1, [1], []), (2, [1], [])]), 0, 0)])
noncomputable def c199_0_e : List Ct := [c145_0, c173_0, c175_12]
noncomputable def c199_0_pts : List PE := []
set_option maxRecDepth 100000 in
theorem c199_0_k : enCtF c199_0 c199_0_e (c199_0_pts ++ []) (none) noH 3000 = true := by decide +kernel
set_option maxRecDepth 100000 in
theorem c199_0_v : ValidC PPk c199_0 := ct_ok fpk noH_ok (d := 2) (ext := []) (pts := c199_0_pts) (env := c199_0_e) rfl (List.forall_mem_cons.mpr ⟨⟨c145_0_v, Nat.le_of_ble_eq_true rfl⟩, List.forall_mem_cons.mpr ⟨⟨c173_0_v, Nat.le_of_ble_eq_true rfl⟩, List.forall_mem_cons.mpr ⟨⟨c175_12_v, Nat.le_of_ble_eq_true rfl⟩, fun _ h => (by cases h)⟩⟩⟩) ext_nil (fun q h => (by cases h)) (enF c199_0_k) (fun _ h => (by cases h))

noncomputable def c200_0 : Ct := (200, 2, (35, [(0, (.negSucc 2147483647), (.ofNat 2147483647)), (1, (.negSucc 2147483647), (.ofNat 2147483647)), (2, (.ofNat 0), (.ofNat 69)), (3, (.ofNat 0), (.ofNat 69)), (4, (.ofNat 0), (.ofNat 8)), (5, (.negSucc 2147483647), (.ofNat 2147483647)), (6, (.negSucc 2147483647), (.ofNat 2147483647)), (7, (.negSucc 2147483647), (.ofNat 2147483647)), (8, (.negSucc 2147483647), (.ofNat 2147483647)), (9, (.negSucc 2147483647), (.ofNat 2147483647)), (10, (.negSucc 2147483647), (.ofNat 2147483647)), (11, (.negSucc 2147483647), (.ofNat 2147483647)), (12, (.ofNat 1), (.ofNat 4)), (13, (.ofNat 0), (.ofNat 60)), (14, (.ofNat 0), (.ofNat 8)), (15, (.ofNat 0), (.ofNat 6)), (16, (.ofNat 0), (.ofNat 8)), (17, (.ofNat 0), (.ofNat 60)), (18, (.ofNat 0), (.ofNat 60)), (19, (.ofNat 0), (.ofNat 10)), (20, (.negSucc 2147483647), (.ofNat 2147483647)), (21, (.ofNat 0), (.ofNat 1)), (22, (.ofNat 0), (.ofNat 1)), (23, (.ofNat 0), (.ofNat 1)), (24, (.ofNat 0), (.ofNat 1))], [((.ofNat 1), [(21, (.negSucc 0)), (22, (.negSucc 0)), (23, (.negSucc 0)), (24, (.negSucc 0))])], [.inr (.inl (some 0)), .inl (false, ((.ofNat 0), [(0, (.ofNat 1))])), .inl (false, ((.ofNat 0), [(1, (.ofNat 1))]))], [zc638,
    zc639,
    zc97,
    zc640,
    zc60,
    zc61,
    zc62,
    .inr (1, .inr (.inl 70)),
    .inr (1, .inr (.inl 8)),
    zc63,
    zc30,
    zc31,
    zc32,
    zc33,
    .inr (1, .inr (.inl 4))], [(1, [1], []), (2, [1], [])]),
  [((36, [(35, (.negSucc 2147483647), (.ofNat 2147483647))], [], [.inl (false, ((.ofNat 0), [(35, (.ofNat 1))]))], [zc638,
    zc639,
    zc97,
    zc640,
    zc60,
    zc61,
    zc62,
    .inr (1, .inr (.inl 70)),
    .inr (1, .inr (.inl 8)),
    zc63,
    zc30,
    zc31,
    zc32,
    zc33,
    .inr (1, .inr (.inl 4))], [(1, [1], []), (2, [1], [])]), 0, 0)])
noncomputable def c200_0_e : List Ct := [c145_0, c175_12]
noncomputable def c200_0_pts : List PE := []
set_option maxRecDepth 100000 in
theorem c200_0_k : enCtF c200_0 c200_0_e (c200_0_pts ++ []) (none) noH 3000 = true := by decide +kernel
set_option maxRecDepth 100000 in
theorem c200_0_v : ValidC PPk c200_0 := ct_ok fpk noH_ok (d := 1) (ext := []) (pts := c200_0_pts) (env := c200_0_e) rfl (List.forall_mem_cons.mpr ⟨⟨c145_0_v, Nat.le_of_ble_eq_true rfl⟩, List.forall_mem_cons.mpr ⟨⟨c175_12_v, Nat.le_of_ble_eq_true rfl⟩, fun _ h => (by cases h)⟩⟩) ext_nil (fun q h => (by cases h)) (enF c200_0_k) (fun _ h => (by cases h))

noncomputable def c201_0 : Ct := (201, 2, (34, [(0, (.negSucc 2147483647), (.ofNat 2147483647)), (1, (.ofNat 0), (.ofNat 69)), (2, (.ofNat 0), (.ofNat 69)), (3, (.ofNat 0), (.ofNat 8)), (4, (.negSucc 2147483647), (.ofNat 2147483647)), (5, (.negSucc 2147483647), (.ofNat 2147483647)), (6, (.negSucc 2147483647), (.ofNat 2147483647)), (7, (.negSucc 2147483647), (.ofNat 2147483647)), (8, (.negSucc 2147483647), (.ofNat 2147483647)), (9, (.negSucc 2147483647), (.ofNat 2147483647)), (10, (.negSucc 2147483647), (.ofNat 2147483647)), (11, (.ofNat 1), (.ofNat 4)), (12, (.ofNat 0), (.ofNat 60)), (13, (.ofNat 0), (.ofNat 8)), (14, (.ofNat 0), (.ofNat 6)), (15, (.ofNat 0), (.ofNat 8)), (16, (.ofNat 0), (.ofNat 60)), (17, (.ofNat 0), (.ofNat 60)), (18, (.ofNat 0), (.ofNat 10)), (19, (.negSucc 2147483647), (.ofNat 2147483647)), (20, (.ofNat 0), (.ofNat 1)), (21, (.ofNat 0), (.ofNat 1)), (22, (.ofNat 0), (.ofNat 1)), (23, (.ofNat 0), (.ofNat 1))], [((.ofNat 1), [(20, (.negSucc 0)), (21, (.negSucc 0)), (22, (.negSucc 0)), (23, (.negSucc 0))])], [.inr (.inl (some 0)), .inl (false, ((.ofNat 0), [(0, (.ofNat 1))]))], [zc620,
    zc621,
    zc57,
    zc622,
    zc59,
    zc60,
    zc61,
    .inr (1, .inr (.inl 70)),
    .inr (1, .inr (.inl 8)),
    zc62,
    zc63,
    zc30,
    zc31,
    zc32,
    .inr (1, .inr (.inl 4))], [(1, [1], []), (2, [1], [])]),
  [((35, [(34, (.negSucc 2147483647), (.ofNat 2147483647))], [], [.inl (false, ((.ofNat 0), [(34, (.ofNat 1))]))], [zc620,
    zc621,
    zc57,
    zc622,
    zc59,
    zc60,
    zc61,
    .inr (1, .inr (.inl 70)),
    .inr (1, .inr (.inl 8)),
    zc62,
    zc63,
    zc30,
    zc31,
    zc32,
    .inr (1, .inr (.inl 4))], [(1, [1], []), (2, [1], [])]), 0, 0)])
noncomputable def c201_0_e : List Ct := [c145_0]
noncomputable def c201_0_pts : List PE := []
set_option maxRecDepth 100000 in
theorem c201_0_k : enCtF c201_0 c201_0_e (c201_0_pts ++ []) (none) noH 3000 = true := by decide +kernel
set_option maxRecDepth 100000 in
theorem c201_0_v : ValidC PPk c201_0 := ct_ok fpk noH_ok (d := 1) (ext := []) (pts := c201_0_pts) (env := c201_0_e) rfl (List.forall_mem_cons.mpr ⟨⟨c145_0_v, Nat.le_of_ble_eq_true rfl⟩, fun _ h => (by cases h)⟩) ext_nil (fun q h => (by cases h)) (enF c201_0_k) (fun _ h => (by cases h))

def zc802 : AC := .inl (12, [.inr (.inl (some 1)), .inr (.inl (some 2)), .inr (.inl (some 3)), .inl (false, ((.ofNat 0), [(5, (.ofNat 1))])), .inr (.inl (some 4)), .inr (.inl (some 5)), .inl (false, ((.ofNat 0), [(6, (.ofNat 1))])), .inr (.inl (some 6)), .inr (.inl (some 7)), .inl (false, ((.ofNat 0), [(7, (.ofNat 1))])), .inr (.inl (some 8)), .inl (false, ((.ofNat 0), [(8, (.ofNat 1))])), .inr (.inl (some 9)), .inr (.inl (some 10)), .inr (.inl (some 11)), .inr (.inl (some 12)), .inl (false, ((.ofNat 0), [(9, (.ofNat 1))])), .inl (false, ((.ofNat 0), [(10, (.ofNat 1))])), .inl (false, ((.ofNat 0), [(11, (.ofNat 1))])), .inr (.inl (some 13)), .inl (false, ((.ofNat 0), [(12, (.ofNat 1))])), .inl (false, ((.ofNat 0), [(13, (.ofNat 1))])), .inl (false, ((.ofNat 0), [(14, (.ofNat 1))])), .inr (.inl (some 14))])
def zc803 : AC := .inr (0, .inl [.inl ((.ofNat 0), [(15, (.ofNat 1))]), .inl ((.ofNat 0), [(16, (.ofNat 1))]), .inl ((.ofNat 0), [(17, (.ofNat 1))]), .inl ((.ofNat 0), [(18, (.ofNat 1))]), .inl ((.ofNat 0), [(19, (.ofNat 1))]), .inl ((.ofNat 0), [(20, (.ofNat 1))]), .inl ((.ofNat 0), [(21, (.ofNat 1))]), .inl ((.ofNat 0), [(22, (.ofNat 1))]), .inr (5, (.negSucc 2147483647), (.ofNat 2147483647)), .inr (1, (.ofNat 0), (.ofNat 3)), .inl ((.ofNat 0), [(23, (.ofNat 1))]), .inr (2, (.negSucc 2147483647), (.ofNat 2147483647)), .inr (1, (.ofNat 1), (.ofNat 1000)), .inr (1, (.ofNat 0), (.ofNat 50)), .inr (23, (.negSucc 2147483647), (.ofNat 2147483647)), .inl ((.ofNat 0), [(24, (.ofNat 1))]), .inr (39, (.negSucc 2147483647), (.ofNat 2147483647)), .inl ((.ofNat 0), [(25, (.ofNat 1))]), .inr (39, (.negSucc 2147483647), (.ofNat 2147483647)), .inl ((.ofNat 0), [(26, (.ofNat 1))]), .inr (39, (.negSucc 2147483647), (.ofNat 2147483647)), .inl ((.ofNat 0), [(27, (.ofNat 1))]), .inr (517, (.negSucc 2147483647), (.ofNat 2147483647)), .inr (12, (.ofNat 0), (.ofNat 60)), .inr (1, (.ofNat 0), (.ofNat 5)), .inr (1, (.ofNat 0), (.ofNat 39)), .inr (1, (.ofNat 0), (.ofNat 40)), .inr (1, (.ofNat 0), (.ofNat 5)), .inr (1, (.ofNat 0), (.ofNat 39)), .inr (1, (.ofNat 0), (.ofNat 40)), .inr (1, (.ofNat 0), (.ofNat 5)), .inr (1, (.ofNat 0), (.ofNat 39)), .inr (1, (.ofNat 0), (.ofNat 40)), .inr (1, (.ofNat 0), (.ofNat 5)), .inr (1, (.ofNat 0), (.ofNat 39)), .inr (1, (.ofNat 0), (.ofNat 40)), .inr (1, (.ofNat 0), (.ofNat 5)), .inr (1, (.ofNat 0), (.ofNat 39)), .inr (1, (.ofNat 0), (.ofNat 40)), .inr (1, (.ofNat 0), (.ofNat 5)), .inr (1, (.ofNat 0), (.ofNat 39)), .inr (1, (.ofNat 0), (.ofNat 40)), .inr (1, (.ofNat 0), (.ofNat 5)), .inr (1, (.ofNat 0), (.ofNat 39)), .inr (1, (.ofNat 0), (.ofNat 40)), .inr (1, (.ofNat 0), (.ofNat 5)), .inr (1, (.ofNat 0), (.ofNat 39)), .inr (1, (.ofNat 0), (.ofNat 40)), .inr (76, (.negSucc 2147483647), (.ofNat 2147483647)), .inr (2, (.negSucc 2147483647), (.ofNat 2147483647)), .inr (1, (.ofNat 0), (.ofNat 5)), .inr (2, (.negSucc 2147483647), (.ofNat 2147483647)), .inr (2, (.negSucc 2147483647), (.ofNat 2147483647)), .inr (1, (.ofNat 0), (.ofNat 5)), .inr (2, (.negSucc 2147483647), (.ofNat 2147483647)), .inr (2, (.negSucc 2147483647), (.ofNat 2147483647)), .inr (1, (.ofNat 0), (.ofNat 5)), .inr (2, (.negSucc 2147483647), (.ofNat 2147483647)), .inr (2, (.negSucc 2147483647), (.ofNat 2147483647)), .inr (1, (.ofNat 0), (.ofNat 5)), .inr (2, (.negSucc 2147483647), (.ofNat 2147483647)), .inr (2, (.negSucc 2147483647), (.ofNat 2147483647)), .inr (1, (.ofNat 0), (.ofNat 5)), .inr (2, (.negSucc 2147483647), (.ofNat 2147483647)), .inr (2, (.negSucc 2147483647), (.ofNat 2147483647)), .inr (1, (.ofNat 0), (.ofNat 5)), .inr (2, (.negSucc 2147483647), (.ofNat 2147483647)), .inr (2, (.negSucc 2147483647), (.ofNat 2147483647)), .inr (1, (.ofNat 0), (.ofNat 5)), .inr (2, (.negSucc 2147483647), (.ofNat 2147483647)), .inr (2, (.negSucc 2147483647), (.ofNat 2147483647)), .inr (1, (.ofNat 0), (.ofNat 5)), .inr (2, (.negSucc 2147483647), (.ofNat 2147483647)), .inr (60, (.ofNat 0), (.ofNat 127)), .inr (18, (.negSucc 2147483647), (.ofNat 2147483647))])
def zc804 : AC := .inr (103, .inl [.inl ((.ofNat 0), [(29, (.ofNat 1))])])
noncomputable def c202_0 : Ct := (202, 3, (38, [(0, (.negSucc 2147483647), (.ofNat 2147483647)), (1, (.negSucc 2147483647), (.ofNat 2147483647)), (2, (.negSucc 2147483647), (.ofNat 2147483647)), (3, (.negSucc 2147483647), (.ofNat 2147483647)), (4, (.negSucc 2147483647), (.ofNat 2147483647)), (5, (.ofNat 0), (.ofNat 69)), (6, (.ofNat 0), (.ofNat 69)), (7, (.ofNat 0), (.ofNat 8)), (8, (.negSucc 2147483647), (.ofNat 2147483647)), (9, (.negSucc 2147483647), (.ofNat 2147483647)), (10, (.negSucc 2147483647), (.ofNat 2147483647)), (11, (.negSucc 2147483647), (.ofNat 2147483647)), (12, (.negSucc 2147483647), (.ofNat 2147483647)), (13, (.negSucc 2147483647), (.ofNat 2147483647)), (14, (.negSucc 2147483647), (.ofNat 2147483647)), (15, (.ofNat 1), (.ofNat 4)), (16, (.ofNat 0), (.ofNat 60)), (17, (.ofNat 0), (.ofNat 8)), (18, (.ofNat 0), (.ofNat 6)), (19, (.ofNat 0), (.ofNat 8)), (20, (.ofNat 0), (.ofNat 60)), (21, (.ofNat 0), (.ofNat 60)), (22, (.ofNat 0), (.ofNat 10)), (23, (.negSucc 2147483647), (.ofNat 2147483647)), (24, (.ofNat 0), (.ofNat 1)), (25, (.ofNat 0), (.ofNat 1)), (26, (.ofNat 0), (.ofNat 1)), (27, (.ofNat 0), (.ofNat 1))], [((.ofNat 1), [(24, (.negSucc 0)), (25, (.negSucc 0)), (26, (.negSucc 0)), (27, (.negSucc 0))])], [.inr (.inl (some 0)), .inl (false, ((.ofNat 0), [(0, (.ofNat 1))])), .inl (false, ((.ofNat 0), [(1, (.ofNat 1))])), .inl (false, ((.ofNat 0), [(2, (.ofNat 1))])), .inl (false, ((.ofNat 0), [(3, (.ofNat 1))])), .inl (false, ((.ofNat 0), [(4, (.ofNat 1))]))], [zc802,
    zc803,
    zc61,
    zc804,
    zc63,
    zc30,
    zc31,
    .inr (1, .inr (.inl 70)),
    .inr (1, .inr (.inl 8)),
    zc32,
    zc33,
    zc34,
    zc101,
    zc66,
    .inr (1, .inr (.inl 4))], [(1, [1], []), (2, [1], [])]),
  [((40, [(38, (.negSucc 3), (.ofNat 7)), (39, (.ofNat 0), (.ofNat 8))], [], [.inl (false, ((.ofNat 0), [(38, (.ofNat 1))]))], [zc802,
    .inr (0, .inl [.inl ((.ofNat 0), [(15, (.ofNat 1))]), .inl ((.ofNat 0), [(16, (.ofNat 1))]), .inl ((.ofNat 0), [(17, (.ofNat 1))]), .inl ((.ofNat 0), [(18, (.ofNat 1))]), .inl ((.ofNat 0), [(39, (.ofNat 1))]), .inl ((.ofNat 0), [(20, (.ofNat 1))]), .inl ((.ofNat 0), [(21, (.ofNat 1))]), .inl ((.ofNat 0), [(22, (.ofNat 1))]), .inr (5, (.negSucc 2147483647), (.ofNat 2147483647)), .inr (1, (.ofNat 0), (.ofNat 3)), .inl ((.ofNat 0), [(23, (.ofNat 1))]), .inr (2, (.negSucc 2147483647), (.ofNat 2147483647)), .inr (1, (.ofNat 1), (.ofNat 1000)), .inr (1, (.ofNat 0), (.ofNat 50)), .inr (23, (.negSucc 2147483647), (.ofNat 2147483647)), .inl ((.ofNat 0), [(24, (.ofNat 1))]), .inr (39, (.negSucc 2147483647), (.ofNat 2147483647)), .inl ((.ofNat 0), [(25, (.ofNat 1))]), .inr (39, (.negSucc 2147483647), (.ofNat 2147483647)), .inl ((.ofNat 0), [(26, (.ofNat 1))]), .inr (39, (.negSucc 2147483647), (.ofNat 2147483647)), .inl ((.ofNat 0), [(27, (.ofNat 1))]), .inr (517, (.negSucc 2147483647), (.ofNat 2147483647)), .inr (12, (.ofNat 0), (.ofNat 60)), .inr (1, (.ofNat 0), (.ofNat 5)), .inr (1, (.ofNat 0), (.ofNat 39)), .inr (1, (.ofNat 0), (.ofNat 40)), .inr (1, (.ofNat 0), (.ofNat 5)), .inr (1, (.ofNat 0), (.ofNat 39)), .inr (1, (.ofNat 0), (.ofNat 40)), .inr (1, (.ofNat 0), (.ofNat 5)), .inr (1, (.ofNat 0), (.ofNat 39)), .inr (1, (.ofNat 0), (.ofNat 40)), .inr (1, (.ofNat 0), (.ofNat 5)), .inr (1, (.ofNat 0), (.ofNat 39)), .inr (1, (.ofNat 0), (.ofNat 40)), .inr (1, (.ofNat 0), (.ofNat 5)), .inr (1, (.ofNat 0), (.ofNat 39)), .inr (1, (.ofNat 0), (.ofNat 40)), .inr (1, (.ofNat 0), (.ofNat 5)), .inr (1, (.ofNat 0), (.ofNat 39)), .inr (1, (.ofNat 0), (.ofNat 40)), .inr (1, (.ofNat 0), (.ofNat 5)), .inr (1, (.ofNat 0), (.ofNat 39)), .inr (1, (.ofNat 0), (.ofNat 40)), .inr (1, (.ofNat 0), (.ofNat 5)), .inr (1, (.ofNat 0), (.ofNat 39)), .inr (1, (.ofNat 0), (.ofNat 40)), .inr (76, (.negSucc 2147483647), (.ofNat 2147483647)), .inr (2, (.negSucc 2147483647), (.ofNat 2147483647)), .inr (1, (.ofNat 0), (.ofNat 5)), .inr (2, (.negSucc 2147483647), (.ofNat 2147483647)), .inr (2, (.negSucc 2147483647), (.ofNat 2147483647)), .inr (1, (.ofNat 0), (.ofNat 5)), .inr (2, (.negSucc 2147483647), (.ofNat 2147483647)), .inr (2, (.negSucc 2147483647), (.ofNat 2147483647)), .inr (1, (.ofNat 0), (.ofNat 5)), .inr (2, (.negSucc 2147483647), (.ofNat 2147483647)), .inr (2, (.negSucc 2147483647), (.ofNat 2147483647)), .inr (1, (.ofNat 0), (.ofNat 5)), .inr (2, (.negSucc 2147483647), (.ofNat 2147483647)), .inr (2, (.negSucc 2147483647), (.ofNat 2147483647)), .inr (1, (.ofNat 0), (.ofNat 5)), .inr (2, (.negSucc 2147483647), (.ofNat 2147483647)), .inr (2, (.negSucc 2147483647), (.ofNat 2147483647)), .inr (1, (.ofNat 0), (.ofNat 5)), .inr (2, (.negSucc 2147483647), (.ofNat 2147483647)), .inr (2, (.negSucc 2147483647), (.ofNat 2147483647)), .inr (1, (.ofNat 0), (.ofNat 5)), .inr (2, (.negSucc 2147483647), (.ofNat 2147483647)), .inr (2, (.negSucc 2147483647), (.ofNat 2147483647)), .inr (1, (.ofNat 0), (.ofNat 5)), .inr (2, (.negSucc 2147483647), (.ofNat 2147483647)), .inr (60, (.ofNat 0), (.ofNat 127)), .inr (18, (.negSucc 2147483647), (.ofNat 2147483647))]),
    zc61,
    zc804,
    zc63,
    zc30,
    zc31,
    .inr (1, .inr (.inl 70)),
    .inr (1, .inr (.inl 8)),
    zc32,
    zc33,
    zc34,
    zc101,
    zc66,
    .inr (1, .inr (.inl 4))], [(1, [1], [])]), 0, 0)])
noncomputable def c202_0_e : List Ct := [c145_0, c173_0]
noncomputable def c202_0_pts : List PE := []
set_option maxRecDepth 100000 in
theorem c202_0_k : enCtF c202_0 c202_0_e (c202_0_pts ++ []) (some (19, 0, 9)) ((hOr (atPc 124 (fHarmO 406)) (atPc 184 (fHarmC 406))), noM, 0, 24519928653854221755001200366963600904360738919423148032, 38) 3000 = true := by decide +kernel
set_option maxRecDepth 100000 in
theorem c202_0_v : ValidC PPk c202_0 := ct_ok fpk ⟨(hOr_ok (atPc_ok (fHarmO_ok 406)) (atPc_ok (fHarmC_ok 406))), noM_ok⟩ (d := 2) (ext := []) (pts := c202_0_pts) (env := c202_0_e) rfl (List.forall_mem_cons.mpr ⟨⟨c145_0_v, Nat.le_of_ble_eq_true rfl⟩, List.forall_mem_cons.mpr ⟨⟨c173_0_v, Nat.le_of_ble_eq_true rfl⟩, fun _ h => (by cases h)⟩⟩) ext_nil (fun q h => (by cases h; exact Nat.le_of_ble_eq_true rfl)) (enF c202_0_k) (fun _ h => (by cases h))

noncomputable def c148_11 : Ct := (148, 1, (36, [(0, (.ofNat 0), (.ofNat 11)), (1, (.negSucc 2147483647), (.ofNat 2147483647)), (2, (.negSucc 2147483647), (.ofNat 2147483647)), (3, (.ofNat 0), (.ofNat 69)), (4, (.ofNat 0), (.ofNat 69)), (5, (.ofNat 0), (.ofNat 8)), (6, (.negSucc 2147483647), (.ofNat 2147483647)), (7, (.negSucc 2147483647), (.ofNat 2147483647)), (8, (.negSucc 2147483647), (.ofNat 2147483647)), (9, (.negSucc 2147483647), (.ofNat 2147483647)), (10, (.negSucc 2147483647), (.ofNat 2147483647)), (11, (.negSucc 2147483647), (.ofNat 2147483647)), (12, (.negSucc 2147483647), (.ofNat 2147483647)), (13, (.ofNat 1), (.ofNat 4)), (14, (.ofNat 0), (.ofNat 60)), (15, (.ofNat 0), (.ofNat 8)), (16, (.ofNat 0), (.ofNat 6)), (17, (.ofNat 0), (.ofNat 8)), (18, (.ofNat 0), (.ofNat 60)), (19, (.ofNat 0), (.ofNat 60)), (20, (.ofNat 0), (.ofNat 10)), (21, (.negSucc 2147483647), (.ofNat 2147483647)), (22, (.ofNat 0), (.ofNat 1)), (23, (.ofNat 0), (.ofNat 1)), (24, (.ofNat 0), (.ofNat 1)), (25, (.ofNat 0), (.ofNat 1))], [((.ofNat 1), [(22, (.negSucc 0)), (23, (.negSucc 0)), (24, (.negSucc 0)), (25, (.negSucc 0))])], [.inr (.inl (some 0)), .inl (false, ((.ofNat 440), [])), .inl (false, ((.ofNat 6), [])), .inl (false, ((.ofNat 0), [])), .inl (false, ((.ofNat 0), [(0, (.ofNat 1))])), .inl (false, ((.ofNat 0), [(1, (.ofNat 1))])), .inl (false, ((.ofNat 0), [(2, (.ofNat 1))]))], [zc628,
    zc629,
    zc59,
    zc630,
    zc61,
    zc62,
    zc63,
    .inr (1, .inr (.inl 70)),
    .inr (1, .inr (.inl 8)),
    zc30,
    zc31,
    zc32,
    zc33,
    zc34,
    .inr (1, .inr (.inl 4))], [(1, [1], []), (2, [1], [])]),
  [((36, [], [], [.inl (false, ((.ofNat 1), [(19, (.ofNat 1))]))], [zc628,
    .inr (0, .inl [.inl ((.ofNat 0), [(13, (.ofNat 1))]), .inl ((.ofNat 0), [(14, (.ofNat 1))]), .inl ((.ofNat 0), [(15, (.ofNat 1))]), .inl ((.ofNat 0), [(16, (.ofNat 1))]), .inl ((.ofNat 0), [(17, (.ofNat 1))]), .inl ((.ofNat 0), [(18, (.ofNat 1))]), .inl ((.ofNat 1), [(19, (.ofNat 1))]), .inl ((.ofNat 0), [(20, (.ofNat 1))]), .inr (5, (.negSucc 2147483647), (.ofNat 2147483647)), .inr (1, (.ofNat 0), (.ofNat 3)), .inl ((.ofNat 0), [(21, (.ofNat 1))]), .inr (2, (.negSucc 2147483647), (.ofNat 2147483647)), .inr (1, (.ofNat 1), (.ofNat 1000)), .inr (1, (.ofNat 0), (.ofNat 50)), .inr (23, (.negSucc 2147483647), (.ofNat 2147483647)), .inl ((.ofNat 0), [(22, (.ofNat 1))]), .inr (39, (.negSucc 2147483647), (.ofNat 2147483647)), .inl ((.ofNat 0), [(23, (.ofNat 1))]), .inr (39, (.negSucc 2147483647), (.ofNat 2147483647)), .inl ((.ofNat 0), [(24, (.ofNat 1))]), .inr (39, (.negSucc 2147483647), (.ofNat 2147483647)), .inl ((.ofNat 0), [(25, (.ofNat 1))]), .inr (517, (.negSucc 2147483647), (.ofNat 2147483647)), .inr (2, (.ofNat 0), (.ofNat 60)), .inr (2, (.negSucc 2147483647), (.ofNat 2147483647)), .inr (8, (.ofNat 0), (.ofNat 60)), .inr (1, (.ofNat 0), (.ofNat 5)), .inr (1, (.ofNat 0), (.ofNat 39)), .inr (1, (.ofNat 0), (.ofNat 40)), .inr (1, (.ofNat 0), (.ofNat 5)), .inr (1, (.ofNat 0), (.ofNat 39)), .inr (1, (.ofNat 0), (.ofNat 40)), .inr (1, (.ofNat 0), (.ofNat 5)), .inr (1, (.ofNat 0), (.ofNat 39)), .inr (1, (.ofNat 0), (.ofNat 40)), .inr (1, (.ofNat 0), (.ofNat 5)), .inr (1, (.ofNat 0), (.ofNat 39)), .inr (1, (.ofNat 0), (.ofNat 40)), .inr (1, (.ofNat 0), (.ofNat 5)), .inr (1, (.ofNat 0), (.ofNat 39)), .inr (1, (.ofNat 0), (.ofNat 40)), .inr (1, (.ofNat 0), (.ofNat 5)), .inr (1, (.ofNat 0), (.ofNat 39)), .inr (1, (.ofNat 0), (.ofNat 40)), .inr (1, (.ofNat 0), (.ofNat 5)), .inr (1, (.ofNat 0), (.ofNat 39)), .inr (1, (.ofNat 0), (.ofNat 40)), .inr (1, (.ofNat 0), (.ofNat 5)), .inr (1, (.ofNat 0), (.ofNat 39)), .inr (1, (.ofNat 0), (.ofNat 40)), .inr (78, (.negSucc 2147483647), (.ofNat 2147483647)), .inr (1, (.ofNat 0), (.ofNat 5)), .inr (4, (.negSucc 2147483647), (.ofNat 2147483647)), .inr (1, (.ofNat 0), (.ofNat 5)), .inr (4, (.negSucc 2147483647), (.ofNat 2147483647)), .inr (1, (.ofNat 0), (.ofNat 5)), .inr (4, (.negSucc 2147483647), (.ofNat 2147483647)), .inr (1, (.ofNat 0), (.ofNat 5)), .inr (4, (.negSucc 2147483647), (.ofNat 2147483647)), .inr (1, (.ofNat 0), (.ofNat 5)), .inr (4, (.negSucc 2147483647), (.ofNat 2147483647)), .inr (1, (.ofNat 0), (.ofNat 5)), .inr (4, (.negSucc 2147483647), (.ofNat 2147483647)), .inr (1, (.ofNat 0), (.ofNat 5)), .inr (4, (.negSucc 2147483647), (.ofNat 2147483647)), .inr (1, (.ofNat 0), (.ofNat 5)), .inr (2, (.negSucc 2147483647), (.ofNat 2147483647)), .inr (60, (.ofNat 0), (.ofNat 127)), .inr (18, (.negSucc 2147483647), (.ofNat 2147483647))]),
    zc59,
    zc630,
    zc61,
    zc62,
    zc63,
    .inr (1, .inr (.inl 70)),
    .inr (1, .inr (.inl 8)),
    zc30,
    zc31,
    zc32,
    zc33,
    zc34,
    .inr (1, .inr (.inl 4))], [(1, [1], []), (2, [1], [])]), 0, 0)])
noncomputable def c148_11_e : List Ct := []
noncomputable def c148_11_pts : List PE := []
set_option maxRecDepth 100000 in
theorem c148_11_k : enCtF c148_11 c148_11_e (c148_11_pts ++ []) (some (19, 0, 61)) ((hOr (hOpen 12 307 1) (hClose 53 307 1)), noM, 0, 9007199254745088, 36) 3000 = true := by decide +kernel
set_option maxRecDepth 100000 in
theorem c148_11_v : ValidC PPk c148_11 := ct_ok fpk ⟨(hOr_ok (hOpen_ok 12 307 1) (hClose_ok 53 307 1)), noM_ok⟩ (d := 0) (ext := []) (pts := c148_11_pts) (env := c148_11_e) rfl (fun _ h => (by cases h)) ext_nil (fun q h => (by cases h; exact Nat.le_of_ble_eq_true rfl)) (enF c148_11_k) (fun _ h => (by cases h))

def zc805 : AC := .inr (0, .inl [.inl ((.ofNat 0), [(13, (.ofNat 1))]), .inl ((.ofNat 0), [(14, (.ofNat 1))]), .inl ((.ofNat 0), [(15, (.ofNat 1))]), .inl ((.ofNat 0), [(16, (.ofNat 1))]), .inl ((.ofNat 0), [(17, (.ofNat 1))]), .inl ((.ofNat 0), [(18, (.ofNat 1))]), .inl ((.ofNat 1), [(19, (.ofNat 1))]), .inl ((.ofNat 0), [(20, (.ofNat 1))]), .inr (5, (.negSucc 2147483647), (.ofNat 2147483647)), .inr (1, (.ofNat 0), (.ofNat 3)), .inl ((.ofNat 0), [(21, (.ofNat 1))]), .inr (2, (.negSucc 2147483647), (.ofNat 2147483647)), .inr (1, (.ofNat 1), (.ofNat 1000)), .inr (1, (.ofNat 0), (.ofNat 50)), .inr (23, (.negSucc 2147483647), (.ofNat 2147483647)), .inl ((.ofNat 0), [(22, (.ofNat 1))]), .inr (39, (.negSucc 2147483647), (.ofNat 2147483647)), .inl ((.ofNat 0), [(23, (.ofNat 1))]), .inr (39, (.negSucc 2147483647), (.ofNat 2147483647)), .inl ((.ofNat 0), [(24, (.ofNat 1))]), .inr (39, (.negSucc 2147483647), (.ofNat 2147483647)), .inl ((.ofNat 0), [(25, (.ofNat 1))]), .inr (517, (.negSucc 2147483647), (.ofNat 2147483647)), .inr (12, (.ofNat 0), (.ofNat 60)), .inr (1, (.ofNat 0), (.ofNat 5)), .inr (1, (.ofNat 0), (.ofNat 39)), .inr (1, (.ofNat 0), (.ofNat 40)), .inr (1, (.ofNat 0), (.ofNat 5)), .inr (1, (.ofNat 0), (.ofNat 39)), .inr (1, (.ofNat 0), (.ofNat 40)), .inr (1, (.ofNat 0), (.ofNat 5)), .inr (1, (.ofNat 0), (.ofNat 39)), .inr (1, (.ofNat 0), (.ofNat 40)), .inr (1, (.ofNat 0), (.ofNat 5)), .inr (1, (.ofNat 0), (.ofNat 39)), .inr (1, (.ofNat 0), (.ofNat 40)), .inr (1, (.ofNat 0), (.ofNat 5)), .inr (1, (.ofNat 0), (.ofNat 39)), .inr (1, (.ofNat 0), (.ofNat 40)), .inr (1, (.ofNat 0), (.ofNat 5)), .inr (1, (.ofNat 0), (.ofNat 39)), .inr (1, (.ofNat 0), (.ofNat 40)), .inr (1, (.ofNat 0), (.ofNat 5)), .inr (1, (.ofNat 0), (.ofNat 39)), .inr (1, (.ofNat 0), (.ofNat 40)), .inr (1, (.ofNat 0), (.ofNat 5)), .inr (1, (.ofNat 0), (.ofNat 39)), .inr (1, (.ofNat 0), (.ofNat 40)), .inr (78, (.negSucc 2147483647), (.ofNat 2147483647)), .inr (1, (.ofNat 0), (.ofNat 5)), .inr (4, (.negSucc 2147483647), (.ofNat 2147483647)), .inr (1, (.ofNat 0), (.ofNat 5)), .inr (4, (.negSucc 2147483647), (.ofNat 2147483647)), .inr (1, (.ofNat 0), (.ofNat 5)), .inr (4, (.negSucc 2147483647), (.ofNat 2147483647)), .inr (1, (.ofNat 0), (.ofNat 5)), .inr (4, (.negSucc 2147483647), (.ofNat 2147483647)), .inr (1, (.ofNat 0), (.ofNat 5)), .inr (4, (.negSucc 2147483647), (.ofNat 2147483647)), .inr (1, (.ofNat 0), (.ofNat 5)), .inr (4, (.negSucc 2147483647), (.ofNat 2147483647)), .inr (1, (.ofNat 0), (.ofNat 5)), .inr (4, (.negSucc 2147483647), (.ofNat 2147483647)), .inr (1, (.ofNat 0), (.ofNat 5)), .inr (2, (.negSucc 2147483647), (.ofNat 2147483647)), .inr (60, (.ofNat 0), (.ofNat 127)), .inr (18, (.negSucc 2147483647), (.ofNat 2147483647))])
noncomputable def c148_12 : Ct := (148, 1, (36, [(0, (.ofNat 0), (.ofNat 11)), (1, (.ofNat 0), (.ofNat 11)), (2, (.ofNat 0), (.ofNat 11)), (3, (.ofNat 0), (.ofNat 69)), (4, (.ofNat 0), (.ofNat 69)), (5, (.ofNat 0), (.ofNat 8)), (6, (.negSucc 2147483647), (.ofNat 2147483647)), (7, (.negSucc 2147483647), (.ofNat 2147483647)), (8, (.negSucc 2147483647), (.ofNat 2147483647)), (9, (.negSucc 2147483647), (.ofNat 2147483647)), (10, (.negSucc 2147483647), (.ofNat 2147483647)), (11, (.negSucc 2147483647), (.ofNat 2147483647)), (12, (.negSucc 2147483647), (.ofNat 2147483647)), (13, (.ofNat 1), (.ofNat 4)), (14, (.ofNat 0), (.ofNat 60)), (15, (.ofNat 0), (.ofNat 8)), (16, (.ofNat 0), (.ofNat 6)), (17, (.ofNat 0), (.ofNat 8)), (18, (.ofNat 0), (.ofNat 60)), (19, (.ofNat 0), (.ofNat 60)), (20, (.ofNat 0), (.ofNat 10)), (21, (.negSucc 2147483647), (.ofNat 2147483647)), (22, (.ofNat 0), (.ofNat 1)), (23, (.ofNat 0), (.ofNat 1)), (24, (.ofNat 0), (.ofNat 1)), (25, (.ofNat 0), (.ofNat 1))], [((.ofNat 1), [(22, (.negSucc 0)), (23, (.negSucc 0)), (24, (.negSucc 0)), (25, (.negSucc 0))])], [.inr (.inl (some 0)), .inl (false, ((.ofNat 440), [])), .inl (false, ((.ofNat 6), [])), .inl (false, ((.ofNat 1), [])), .inl (false, ((.ofNat 0), [(0, (.ofNat 1))])), .inl (false, ((.ofNat 0), [(1, (.ofNat 1))])), .inl (false, ((.ofNat 0), [(2, (.ofNat 1))]))], [zc628,
    zc629,
    zc59,
    zc630,
    zc61,
    zc62,
    zc63,
    .inr (1, .inr (.inl 70)),
    .inr (1, .inr (.inl 8)),
    zc30,
    zc31,
    zc32,
    zc33,
    zc34,
    .inr (1, .inr (.inl 4))], [(1, [1], []), (2, [1], [])]),
  [((36, [], [], [.inl (false, ((.ofNat 1), [(19, (.ofNat 1))]))], [zc628,
    zc805,
    zc59,
    zc630,
    zc61,
    zc62,
    zc63,
    .inr (1, .inr (.inl 70)),
    .inr (1, .inr (.inl 8)),
    zc30,
    zc31,
    zc32,
    zc33,
    zc34,
    .inr (1, .inr (.inl 4))], [(1, [1], []), (2, [1], [])]), 0, 0)])
noncomputable def c148_12_e : List Ct := []
noncomputable def c148_12_pts : List PE := []
set_option maxRecDepth 100000 in
theorem c148_12_k : enCtF c148_12 c148_12_e (c148_12_pts ++ []) (some (19, 0, 61)) ((hOr (hOpen 12 307 1) (hClose 53 307 1)), noM, 0, 9007199254745088, 36) 3000 = true := by decide +kernel
set_option maxRecDepth 100000 in
theorem c148_12_v : ValidC PPk c148_12 := ct_ok fpk ⟨(hOr_ok (hOpen_ok 12 307 1) (hClose_ok 53 307 1)), noM_ok⟩ (d := 0) (ext := []) (pts := c148_12_pts) (env := c148_12_e) rfl (fun _ h => (by cases h)) ext_nil (fun q h => (by cases h; exact Nat.le_of_ble_eq_true rfl)) (enF c148_12_k) (fun _ h => (by cases h))

noncomputable def c148_13 : Ct := (148, 1, (36, [(0, (.ofNat 0), (.ofNat 11)), (1, (.ofNat 0), (.ofNat 11)), (2, (.ofNat 0), (.ofNat 11)), (3, (.ofNat 0), (.ofNat 69)), (4, (.ofNat 0), (.ofNat 69)), (5, (.ofNat 0), (.ofNat 8)), (6, (.negSucc 2147483647), (.ofNat 2147483647)), (7, (.negSucc 2147483647), (.ofNat 2147483647)), (8, (.negSucc 2147483647), (.ofNat 2147483647)), (9, (.negSucc 2147483647), (.ofNat 2147483647)), (10, (.negSucc 2147483647), (.ofNat 2147483647)), (11, (.negSucc 2147483647), (.ofNat 2147483647)), (12, (.negSucc 2147483647), (.ofNat 2147483647)), (13, (.ofNat 1), (.ofNat 4)), (14, (.ofNat 0), (.ofNat 60)), (15, (.ofNat 0), (.ofNat 8)), (16, (.ofNat 0), (.ofNat 6)), (17, (.ofNat 0), (.ofNat 8)), (18, (.ofNat 0), (.ofNat 60)), (19, (.ofNat 0), (.ofNat 60)), (20, (.ofNat 0), (.ofNat 10)), (21, (.negSucc 2147483647), (.ofNat 2147483647)), (22, (.ofNat 0), (.ofNat 1)), (23, (.ofNat 0), (.ofNat 1)), (24, (.ofNat 0), (.ofNat 1)), (25, (.ofNat 0), (.ofNat 1))], [((.ofNat 1), [(22, (.negSucc 0)), (23, (.negSucc 0)), (24, (.negSucc 0)), (25, (.negSucc 0))])], [.inr (.inl (some 0)), .inl (false, ((.ofNat 440), [])), .inl (false, ((.ofNat 6), [])), .inl (false, ((.ofNat 2), [])), .inl (false, ((.ofNat 0), [(0, (.ofNat 1))])), .inl (false, ((.ofNat 0), [(1, (.ofNat 1))])), .inl (false, ((.ofNat 0), [(2, (.ofNat 1))]))], [zc628,
    zc629,
    zc59,
    zc630,
    zc61,
    zc62,
    zc63,
    .inr (1, .inr (.inl 70)),
    .inr (1, .inr (.inl 8)),
    zc30,
    zc31,
    zc32,
    zc33,
    zc34,
    .inr (1, .inr (.inl 4))], [(1, [1], []), (2, [1], [])]),
  [((36, [], [], [.inl (false, ((.ofNat 1), [(19, (.ofNat 1))]))], [zc628,
    zc805,
    zc59,
    zc630,
    zc61,
    zc62,
    zc63,
    .inr (1, .inr (.inl 70)),
    .inr (1, .inr (.inl 8)),
    zc30,
    zc31,
    zc32,
    zc33,
    zc34,
    .inr (1, .inr (.inl 4))], [(1, [1], []), (2, [1], [])]), 0, 0)])
noncomputable def c148_13_e : List Ct := []
noncomputable def c148_13_pts : List PE := []
set_option maxRecDepth 100000 in
theorem c148_13_k : enCtF c148_13 c148_13_e (c148_13_pts ++ []) (some (19, 0, 61)) ((hOr (hOpen 12 307 1) (hClose 53 307 1)), noM, 0, 9007199254745088, 36) 3000 = true := by decide +kernel
set_option maxRecDepth 100000 in
theorem c148_13_v : ValidC PPk c148_13 := ct_ok fpk ⟨(hOr_ok (hOpen_ok 12 307 1) (hClose_ok 53 307 1)), noM_ok⟩ (d := 0) (ext := []) (pts := c148_13_pts) (env := c148_13_e) rfl (fun _ h => (by cases h)) ext_nil (fun q h => (by cases h; exact Nat.le_of_ble_eq_true rfl)) (enF c148_13_k) (fun _ h => (by cases h))

noncomputable def c148_14 : Ct := (148, 1, (36, [(0, (.ofNat 0), (.ofNat 11)), (1, (.ofNat 0), (.ofNat 11)), (2, (.ofNat 0), (.ofNat 11)), (3, (.ofNat 0), (.ofNat 69)), (4, (.ofNat 0), (.ofNat 69)), (5, (.ofNat 0), (.ofNat 8)), (6, (.negSucc 2147483647), (.ofNat 2147483647)), (7, (.negSucc 2147483647), (.ofNat 2147483647)), (8, (.negSucc 2147483647), (.ofNat 2147483647)), (9, (.negSucc 2147483647), (.ofNat 2147483647)), (10, (.negSucc 2147483647), (.ofNat 2147483647)), (11, (.negSucc 2147483647), (.ofNat 2147483647)), (12, (.negSucc 2147483647), (.ofNat 2147483647)), (13, (.ofNat 1), (.ofNat 4)), (14, (.ofNat 0), (.ofNat 60)), (15, (.ofNat 0), (.ofNat 8)), (16, (.ofNat 0), (.ofNat 6)), (17, (.ofNat 0), (.ofNat 8)), (18, (.ofNat 0), (.ofNat 60)), (19, (.ofNat 0), (.ofNat 60)), (20, (.ofNat 0), (.ofNat 10)), (21, (.negSucc 2147483647), (.ofNat 2147483647)), (22, (.ofNat 0), (.ofNat 1)), (23, (.ofNat 0), (.ofNat 1)), (24, (.ofNat 0), (.ofNat 1)), (25, (.ofNat 0), (.ofNat 1))], [((.ofNat 1), [(22, (.negSucc 0)), (23, (.negSucc 0)), (24, (.negSucc 0)), (25, (.negSucc 0))])], [.inr (.inl (some 0)), .inl (false, ((.ofNat 440), [])), .inl (false, ((.ofNat 6), [])), .inl (false, ((.ofNat 3), [])), .inl (false, ((.ofNat 0), [(0, (.ofNat 1))])), .inl (false, ((.ofNat 0), [(1, (.ofNat 1))])), .inl (false, ((.ofNat 0), [(2, (.ofNat 1))]))], [zc628,
    zc629,
    zc59,
    zc630,
    zc61,
    zc62,
    zc63,
    .inr (1, .inr (.inl 70)),
    .inr (1, .inr (.inl 8)),
    zc30,
    zc31,
    zc32,
    zc33,
    zc34,
    .inr (1, .inr (.inl 4))], [(1, [1], []), (2, [1], [])]),
  [((36, [], [], [.inl (false, ((.ofNat 1), [(19, (.ofNat 1))]))], [zc628,
    zc805,
    zc59,
    zc630,
    zc61,
    zc62,
    zc63,
    .inr (1, .inr (.inl 70)),
    .inr (1, .inr (.inl 8)),
    zc30,
    zc31,
    zc32,
    zc33,
    zc34,
    .inr (1, .inr (.inl 4))], [(1, [1], []), (2, [1], [])]), 0, 0)])
noncomputable def c148_14_e : List Ct := []
noncomputable def c148_14_pts : List PE := []
set_option maxRecDepth 100000 in
theorem c148_14_k : enCtF c148_14 c148_14_e (c148_14_pts ++ []) (some (19, 0, 61)) ((hOr (hOpen 12 307 1) (hClose 53 307 1)), noM, 0, 9007199254745088, 36) 3000 = true := by decide +kernel
set_option maxRecDepth 100000 in
theorem c148_14_v : ValidC PPk c148_14 := ct_ok fpk ⟨(hOr_ok (hOpen_ok 12 307 1) (hClose_ok 53 307 1)), noM_ok⟩ (d := 0) (ext := []) (pts := c148_14_pts) (env := c148_14_e) rfl (fun _ h => (by cases h)) ext_nil (fun q h => (by cases h; exact Nat.le_of_ble_eq_true rfl)) (enF c148_14_k) (fun _ h => (by cases h))

noncomputable def c148_15 : Ct := (148, 1, (36, [(0, (.ofNat 0), (.ofNat 11)), (1, (.ofNat 0), (.ofNat 11)), (2, (.ofNat 0), (.ofNat 11)), (3, (.ofNat 0), (.ofNat 69)), (4, (.ofNat 0), (.ofNat 69)), (5, (.ofNat 0), (.ofNat 8)), (6, (.negSucc 2147483647), (.ofNat 2147483647)), (7, (.negSucc 2147483647), (.ofNat 2147483647)), (8, (.negSucc 2147483647), (.ofNat 2147483647)), (9, (.negSucc 2147483647), (.ofNat 2147483647)), (10, (.negSucc 2147483647), (.ofNat 2147483647)), (11, (.negSucc 2147483647), (.ofNat 2147483647)), (12, (.negSucc 2147483647), (.ofNat 2147483647)), (13, (.ofNat 1), (.ofNat 4)), (14, (.ofNat 0), (.ofNat 60)), (15, (.ofNat 0), (.ofNat 8)), (16, (.ofNat 0), (.ofNat 6)), (17, (.ofNat 0), (.ofNat 8)), (18, (.ofNat 0), (.ofNat 60)), (19, (.ofNat 0), (.ofNat 60)), (20, (.ofNat 0), (.ofNat 10)), (21, (.negSucc 2147483647), (.ofNat 2147483647)), (22, (.ofNat 0), (.ofNat 1)), (23, (.ofNat 0), (.ofNat 1)), (24, (.ofNat 0), (.ofNat 1)), (25, (.ofNat 0), (.ofNat 1))], [((.ofNat 1), [(22, (.negSucc 0)), (23, (.negSucc 0)), (24, (.negSucc 0)), (25, (.negSucc 0))])], [.inr (.inl (some 0)), .inl (false, ((.ofNat 440), [])), .inl (false, ((.ofNat 6), [])), .inl (false, ((.ofNat 4), [])), .inl (false, ((.ofNat 0), [(0, (.ofNat 1))])), .inl (false, ((.ofNat 0), [(1, (.ofNat 1))])), .inl (false, ((.ofNat 0), [(2, (.ofNat 1))]))], [zc628,
    zc629,
    zc59,
    zc630,
    zc61,
    zc62,
    zc63,
    .inr (1, .inr (.inl 70)),
    .inr (1, .inr (.inl 8)),
    zc30,
    zc31,
    zc32,
    zc33,
    zc34,
    .inr (1, .inr (.inl 4))], [(1, [1], []), (2, [1], [])]),
  [((36, [], [], [.inl (false, ((.ofNat 1), [(19, (.ofNat 1))]))], [zc628,
    zc805,
    zc59,
    zc630,
    zc61,
    zc62,
    zc63,
    .inr (1, .inr (.inl 70)),
    .inr (1, .inr (.inl 8)),
    zc30,
    zc31,
    zc32,
    zc33,
    zc34,
    .inr (1, .inr (.inl 4))], [(1, [1], []), (2, [1], [])]), 0, 0)])
noncomputable def c148_15_e : List Ct := []
noncomputable def c148_15_pts : List PE := []
set_option maxRecDepth 100000 in
theorem c148_15_k : enCtF c148_15 c148_15_e (c148_15_pts ++ []) (some (19, 0, 61)) ((hOr (hOpen 12 307 1) (hClose 53 307 1)), noM, 0, 9007199254745088, 36) 3000 = true := by decide +kernel
set_option maxRecDepth 100000 in
theorem c148_15_v : ValidC PPk c148_15 := ct_ok fpk ⟨(hOr_ok (hOpen_ok 12 307 1) (hClose_ok 53 307 1)), noM_ok⟩ (d := 0) (ext := []) (pts := c148_15_pts) (env := c148_15_e) rfl (fun _ h => (by cases h)) ext_nil (fun q h => (by cases h; exact Nat.le_of_ble_eq_true rfl)) (enF c148_15_k) (fun _ h => (by cases h))

noncomputable def c148_16 : Ct := (148, 1, (36, [(0, (.ofNat 0), (.ofNat 11)), (1, (.ofNat 0), (.ofNat 11)), (2, (.ofNat 0), (.ofNat 11)), (3, (.ofNat 0), (.ofNat 69)), (4, (.ofNat 0), (.ofNat 69)), (5, (.ofNat 0), (.ofNat 8)), (6, (.negSucc 2147483647), (.ofNat 2147483647)), (7, (.negSucc 2147483647), (.ofNat 2147483647)), (8, (.negSucc 2147483647), (.ofNat 2147483647)), (9, (.negSucc 2147483647), (.ofNat 2147483647)), (10, (.negSucc 2147483647), (.ofNat 2147483647)), (11, (.negSucc 2147483647), (.ofNat 2147483647)), (12, (.negSucc 2147483647), (.ofNat 2147483647)), (13, (.ofNat 1), (.ofNat 4)), (14, (.ofNat 0), (.ofNat 60)), (15, (.ofNat 0), (.ofNat 8)), (16, (.ofNat 0), (.ofNat 6)), (17, (.ofNat 0), (.ofNat 8)), (18, (.ofNat 0), (.ofNat 60)), (19, (.ofNat 0), (.ofNat 60)), (20, (.ofNat 0), (.ofNat 10)), (21, (.negSucc 2147483647), (.ofNat 2147483647)), (22, (.ofNat 0), (.ofNat 1)), (23, (.ofNat 0), (.ofNat 1)), (24, (.ofNat 0), (.ofNat 1)), (25, (.ofNat 0), (.ofNat 1))], [((.ofNat 1), [(22, (.negSucc 0)), (23, (.negSucc 0)), (24, (.negSucc 0)), (25, (.negSucc 0))])], [.inr (.inl (some 0)), .inl (false, ((.ofNat 440), [])), .inl (false, ((.ofNat 6), [])), .inl (false, ((.ofNat 5), [])), .inl (false, ((.ofNat 0), [(0, (.ofNat 1))])), .inl (false, ((.ofNat 0), [(1, (.ofNat 1))])), .inl (false, ((.ofNat 0), [(2, (.ofNat 1))]))], [zc628,
    zc629,
    zc59,
    zc630,
    zc61,
    zc62,
    zc63,
    .inr (1, .inr (.inl 70)),
    .inr (1, .inr (.inl 8)),
    zc30,
    zc31,
    zc32,
    zc33,
    zc34,
    .inr (1, .inr (.inl 4))], [(1, [1], []), (2, [1], [])]),
  [((36, [], [], [.inl (false, ((.ofNat 1), [(19, (.ofNat 1))]))], [zc628,
    zc805,
    zc59,
    zc630,
    zc61,
    zc62,
    zc63,
    .inr (1, .inr (.inl 70)),
    .inr (1, .inr (.inl 8)),
    zc30,
    zc31,
    zc32,
    zc33,
    zc34,
    .inr (1, .inr (.inl 4))], [(1, [1], []), (2, [1], [])]), 0, 0)])
noncomputable def c148_16_e : List Ct := []
noncomputable def c148_16_pts : List PE := []
set_option maxRecDepth 100000 in
theorem c148_16_k : enCtF c148_16 c148_16_e (c148_16_pts ++ []) (some (19, 0, 61)) ((hOr (hOpen 12 307 1) (hClose 53 307 1)), noM, 0, 9007199254745088, 36) 3000 = true := by decide +kernel
set_option maxRecDepth 100000 in
theorem c148_16_v : ValidC PPk c148_16 := ct_ok fpk ⟨(hOr_ok (hOpen_ok 12 307 1) (hClose_ok 53 307 1)), noM_ok⟩ (d := 0) (ext := []) (pts := c148_16_pts) (env := c148_16_e) rfl (fun _ h => (by cases h)) ext_nil (fun q h => (by cases h; exact Nat.le_of_ble_eq_true rfl)) (enF c148_16_k) (fun _ h => (by cases h))

noncomputable def c148_17 : Ct := (148, 1, (36, [(0, (.ofNat 0), (.ofNat 11)), (1, (.ofNat 0), (.ofNat 11)), (2, (.ofNat 0), (.ofNat 11)), (3, (.ofNat 0), (.ofNat 69)), (4, (.ofNat 0), (.ofNat 69)), (5, (.ofNat 0), (.ofNat 8)), (6, (.negSucc 2147483647), (.ofNat 2147483647)), (7, (.negSucc 2147483647), (.ofNat 2147483647)), (8, (.negSucc 2147483647), (.ofNat 2147483647)), (9, (.negSucc 2147483647), (.ofNat 2147483647)), (10, (.negSucc 2147483647), (.ofNat 2147483647)), (11, (.negSucc 2147483647), (.ofNat 2147483647)), (12, (.negSucc 2147483647), (.ofNat 2147483647)), (13, (.ofNat 1), (.ofNat 4)), (14, (.ofNat 0), (.ofNat 60)), (15, (.ofNat 0), (.ofNat 8)), (16, (.ofNat 0), (.ofNat 6)), (17, (.ofNat 0), (.ofNat 8)), (18, (.ofNat 0), (.ofNat 60)), (19, (.ofNat 0), (.ofNat 60)), (20, (.ofNat 0), (.ofNat 10)), (21, (.negSucc 2147483647), (.ofNat 2147483647)), (22, (.ofNat 0), (.ofNat 1)), (23, (.ofNat 0), (.ofNat 1)), (24, (.ofNat 0), (.ofNat 1)), (25, (.ofNat 0), (.ofNat 1))], [((.ofNat 1), [(22, (.negSucc 0)), (23, (.negSucc 0)), (24, (.negSucc 0)), (25, (.negSucc 0))])], [.inr (.inl (some 0)), .inl (false, ((.ofNat 440), [])), .inl (false, ((.ofNat 6), [])), .inl (false, ((.ofNat 6), [])), .inl (false, ((.ofNat 0), [(0, (.ofNat 1))])), .inl (false, ((.ofNat 0), [(1, (.ofNat 1))])), .inl (false, ((.ofNat 0), [(2, (.ofNat 1))]))], [zc628,
    zc629,
    zc59,
    zc630,
    zc61,
    zc62,
    zc63,
    .inr (1, .inr (.inl 70)),
    .inr (1, .inr (.inl 8)),
    zc30,
    zc31,
    zc32,
    zc33,
    zc34,
    .inr (1, .inr (.inl 4))], [(1, [1], []), (2, [1], [])]),
  [((36, [], [], [.inl (false, ((.ofNat 1), [(19, (.ofNat 1))]))], [zc628,
    zc805,
    zc59,
    zc630,
    zc61,
    zc62,
    zc63,
    .inr (1, .inr (.inl 70)),
    .inr (1, .inr (.inl 8)),
    zc30,
    zc31,
    zc32,
    zc33,
    zc34,
    .inr (1, .inr (.inl 4))], [(1, [1], []), (2, [1], [])]), 0, 0)])
noncomputable def c148_17_e : List Ct := []
noncomputable def c148_17_pts : List PE := []
set_option maxRecDepth 100000 in
theorem c148_17_k : enCtF c148_17 c148_17_e (c148_17_pts ++ []) (some (19, 0, 61)) ((hOr (hOpen 12 307 1) (hClose 53 307 1)), noM, 0, 9007199254745088, 36) 3000 = true := by decide +kernel
set_option maxRecDepth 100000 in
theorem c148_17_v : ValidC PPk c148_17 := ct_ok fpk ⟨(hOr_ok (hOpen_ok 12 307 1) (hClose_ok 53 307 1)), noM_ok⟩ (d := 0) (ext := []) (pts := c148_17_pts) (env := c148_17_e) rfl (fun _ h => (by cases h)) ext_nil (fun q h => (by cases h; exact Nat.le_of_ble_eq_true rfl)) (enF c148_17_k) (fun _ h => (by cases h))

def zc806 : AC := .inr (0, .inl [.inl ((.ofNat 0), [(13, (.ofNat 1))]), .inl ((.ofNat 0), [(14, (.ofNat 1))]), .inl ((.ofNat 0), [(15, (.ofNat 1))]), .inl ((.ofNat 0), [(16, (.ofNat 1))]), .inl ((.ofNat 0), [(17, (.ofNat 1))]), .inl ((.ofNat 0), [(18, (.ofNat 1))]), .inl ((.ofNat 1), [(19, (.ofNat 1))]), .inl ((.ofNat 0), [(20, (.ofNat 1))]), .inr (5, (.negSucc 2147483647), (.ofNat 2147483647)), .inr (1, (.ofNat 0), (.ofNat 3)), .inl ((.ofNat 0), [(21, (.ofNat 1))]), .inr (2, (.negSucc 2147483647), (.ofNat 2147483647)), .inr (1, (.ofNat 1), (.ofNat 1000)), .inr (1, (.ofNat 0), (.ofNat 50)), .inr (23, (.negSucc 2147483647), (.ofNat 2147483647)), .inl ((.ofNat 0), [(22, (.ofNat 1))]), .inr (39, (.negSucc 2147483647), (.ofNat 2147483647)), .inl ((.ofNat 0), [(23, (.ofNat 1))]), .inr (39, (.negSucc 2147483647), (.ofNat 2147483647)), .inl ((.ofNat 0), [(24, (.ofNat 1))]), .inr (39, (.negSucc 2147483647), (.ofNat 2147483647)), .inl ((.ofNat 0), [(25, (.ofNat 1))]), .inr (517, (.negSucc 2147483647), (.ofNat 2147483647)), .inr (3, (.ofNat 0), (.ofNat 60)), .inr (1, (.negSucc 2147483647), (.ofNat 2147483647)), .inr (8, (.ofNat 0), (.ofNat 60)), .inr (1, (.ofNat 0), (.ofNat 5)), .inr (1, (.ofNat 0), (.ofNat 39)), .inr (1, (.ofNat 0), (.ofNat 40)), .inr (1, (.ofNat 0), (.ofNat 5)), .inr (1, (.ofNat 0), (.ofNat 39)), .inr (1, (.ofNat 0), (.ofNat 40)), .inr (1, (.ofNat 0), (.ofNat 5)), .inr (1, (.ofNat 0), (.ofNat 39)), .inr (1, (.ofNat 0), (.ofNat 40)), .inr (1, (.ofNat 0), (.ofNat 5)), .inr (1, (.ofNat 0), (.ofNat 39)), .inr (1, (.ofNat 0), (.ofNat 40)), .inr (1, (.ofNat 0), (.ofNat 5)), .inr (1, (.ofNat 0), (.ofNat 39)), .inr (1, (.ofNat 0), (.ofNat 40)), .inr (1, (.ofNat 0), (.ofNat 5)), .inr (1, (.ofNat 0), (.ofNat 39)), .inr (1, (.ofNat 0), (.ofNat 40)), .inr (1, (.ofNat 0), (.ofNat 5)), .inr (1, (.ofNat 0), (.ofNat 39)), .inr (1, (.ofNat 0), (.ofNat 40)), .inr (1, (.ofNat 0), (.ofNat 5)), .inr (1, (.ofNat 0), (.ofNat 39)), .inr (1, (.ofNat 0), (.ofNat 40)), .inr (78, (.negSucc 2147483647), (.ofNat 2147483647)), .inr (1, (.ofNat 0), (.ofNat 5)), .inr (4, (.negSucc 2147483647), (.ofNat 2147483647)), .inr (1, (.ofNat 0), (.ofNat 5)), .inr (4, (.negSucc 2147483647), (.ofNat 2147483647)), .inr (1, (.ofNat 0), (.ofNat 5)), .inr (4, (.negSucc 2147483647), (.ofNat 2147483647)), .inr (1, (.ofNat 0), (.ofNat 5)), .inr (4, (.negSucc 2147483647), (.ofNat 2147483647)), .inr (1, (.ofNat 0), (.ofNat 5)), .inr (4, (.negSucc 2147483647), (.ofNat 2147483647)), .inr (1, (.ofNat 0), (.ofNat 5)), .inr (4, (.negSucc 2147483647), (.ofNat 2147483647)), .inr (1, (.ofNat 0), (.ofNat 5)), .inr (4, (.negSucc 2147483647), (.ofNat 2147483647)), .inr (1, (.ofNat 0), (.ofNat 5)), .inr (2, (.negSucc 2147483647), (.ofNat 2147483647)), .inr (60, (.ofNat 0), (.ofNat 127)), .inr (18, (.negSucc 2147483647), (.ofNat 2147483647))])
noncomputable def c148_18 : Ct := (148, 1, (36, [(0, (.ofNat 0), (.ofNat 11)), (1, (.ofNat 1), (.ofNat 20)), (2, (.negSucc 2147483647), (.ofNat 2147483647)), (3, (.ofNat 0), (.ofNat 69)), (4, (.ofNat 0), (.ofNat 69)), (5, (.ofNat 0), (.ofNat 8)), (6, (.negSucc 2147483647), (.ofNat 2147483647)), (7, (.negSucc 2147483647), (.ofNat 2147483647)), (8, (.negSucc 2147483647), (.ofNat 2147483647)), (9, (.negSucc 2147483647), (.ofNat 2147483647)), (10, (.negSucc 2147483647), (.ofNat 2147483647)), (11, (.negSucc 2147483647), (.ofNat 2147483647)), (12, (.negSucc 2147483647), (.ofNat 2147483647)), (13, (.ofNat 1), (.ofNat 4)), (14, (.ofNat 0), (.ofNat 60)), (15, (.ofNat 0), (.ofNat 8)), (16, (.ofNat 0), (.ofNat 6)), (17, (.ofNat 0), (.ofNat 8)), (18, (.ofNat 0), (.ofNat 60)), (19, (.ofNat 0), (.ofNat 60)), (20, (.ofNat 0), (.ofNat 10)), (21, (.negSucc 2147483647), (.ofNat 2147483647)), (22, (.ofNat 0), (.ofNat 1)), (23, (.ofNat 0), (.ofNat 1)), (24, (.ofNat 0), (.ofNat 1)), (25, (.ofNat 0), (.ofNat 1))], [((.ofNat 1), [(22, (.negSucc 0)), (23, (.negSucc 0)), (24, (.negSucc 0)), (25, (.negSucc 0))])], [.inr (.inl (some 0)), .inl (false, ((.ofNat 440), [])), .inl (false, ((.ofNat 6), [])), .inl (false, ((.ofNat 7), [])), .inl (false, ((.ofNat 0), [(0, (.ofNat 1))])), .inl (false, ((.ofNat 0), [(1, (.ofNat 1))])), .inl (false, ((.ofNat 0), [(2, (.ofNat 1))]))], [zc628,
    zc629,
    zc59,
    zc630,
    zc61,
    zc62,
    zc63,
    .inr (1, .inr (.inl 70)),
    .inr (1, .inr (.inl 8)),
    zc30,
    zc31,
    zc32,
    zc33,
    zc34,
    .inr (1, .inr (.inl 4))], [(1, [1], []), (2, [1], [])]),
  [((36, [], [], [.inl (false, ((.ofNat 1), [(19, (.ofNat 1))]))], [zc628,
    zc806,
    zc59,
    zc630,
    zc61,
    zc62,
    zc63,
    .inr (1, .inr (.inl 70)),
    .inr (1, .inr (.inl 8)),
    zc30,
    zc31,
    zc32,
    zc33,
    zc34,
    .inr (1, .inr (.inl 4))], [(1, [1], []), (2, [1], [])]), 0, 0)])
noncomputable def c148_18_e : List Ct := []
noncomputable def c148_18_pts : List PE := []
set_option maxRecDepth 100000 in
theorem c148_18_k : enCtF c148_18 c148_18_e (c148_18_pts ++ []) (some (19, 0, 61)) ((hOr (hOpen 12 307 1) (hClose 53 307 1)), noM, 0, 9007199254745088, 36) 3000 = true := by decide +kernel
set_option maxRecDepth 100000 in
theorem c148_18_v : ValidC PPk c148_18 := ct_ok fpk ⟨(hOr_ok (hOpen_ok 12 307 1) (hClose_ok 53 307 1)), noM_ok⟩ (d := 0) (ext := []) (pts := c148_18_pts) (env := c148_18_e) rfl (fun _ h => (by cases h)) ext_nil (fun q h => (by cases h; exact Nat.le_of_ble_eq_true rfl)) (enF c148_18_k) (fun _ h => (by cases h))

noncomputable def c148_19 : Ct := (148, 1, (36, [(0, (.ofNat 0), (.ofNat 11)), (1, (.ofNat 0), (.ofNat 1)), (2, (.negSucc 2147483647), (.ofNat 2147483647)), (3, (.ofNat 0), (.ofNat 69)), (4, (.ofNat 0), (.ofNat 69)), (5, (.ofNat 0), (.ofNat 8)), (6, (.negSucc 2147483647), (.ofNat 2147483647)), (7, (.negSucc 2147483647), (.ofNat 2147483647)), (8, (.negSucc 2147483647), (.ofNat 2147483647)), (9, (.negSucc 2147483647), (.ofNat 2147483647)), (10, (.negSucc 2147483647), (.ofNat 2147483647)), (11, (.negSucc 2147483647), (.ofNat 2147483647)), (12, (.negSucc 2147483647), (.ofNat 2147483647)), (13, (.ofNat 1), (.ofNat 4)), (14, (.ofNat 0), (.ofNat 60)), (15, (.ofNat 0), (.ofNat 8)), (16, (.ofNat 0), (.ofNat 6)), (17, (.ofNat 0), (.ofNat 8)), (18, (.ofNat 0), (.ofNat 60)), (19, (.ofNat 0), (.ofNat 60)), (20, (.ofNat 0), (.ofNat 10)), (21, (.negSucc 2147483647), (.ofNat 2147483647)), (22, (.ofNat 0), (.ofNat 1)), (23, (.ofNat 0), (.ofNat 1)), (24, (.ofNat 0), (.ofNat 1)), (25, (.ofNat 0), (.ofNat 1))], [((.ofNat 1), [(22, (.negSucc 0)), (23, (.negSucc 0)), (24, (.negSucc 0)), (25, (.negSucc 0))])], [.inr (.inl (some 0)), .inl (false, ((.ofNat 440), [])), .inl (false, ((.ofNat 6), [])), .inl (false, ((.ofNat 8), [])), .inl (false, ((.ofNat 0), [(0, (.ofNat 1))])), .inl (false, ((.ofNat 0), [(1, (.ofNat 1))])), .inl (false, ((.ofNat 0), [(2, (.ofNat 1))]))], [zc628,
    zc629,
    zc59,
    zc630,
    zc61,
    zc62,
    zc63,
    .inr (1, .inr (.inl 70)),
    .inr (1, .inr (.inl 8)),
    zc30,
    zc31,
    zc32,
    zc33,
    zc34,
    .inr (1, .inr (.inl 4))], [(1, [1], []), (2, [1], [])]),
  [((36, [], [], [.inl (false, ((.ofNat 1), [(19, (.ofNat 1))]))], [zc628,
    zc806,
    zc59,
    zc630,
    zc61,
    zc62,
    zc63,
    .inr (1, .inr (.inl 70)),
    .inr (1, .inr (.inl 8)),
    zc30,
    zc31,
    zc32,
    zc33,
    zc34,
    .inr (1, .inr (.inl 4))], [(1, [1], []), (2, [1], [])]), 0, 0)])
noncomputable def c148_19_e : List Ct := []
noncomputable def c148_19_pts : List PE := []
set_option maxRecDepth 100000 in
theorem c148_19_k : enCtF c148_19 c148_19_e (c148_19_pts ++ []) (some (19, 0, 61)) ((hOr (hOpen 12 307 1) (hClose 53 307 1)), noM, 0, 9007199254745088, 36) 3000 = true := by decide +kernel
set_option maxRecDepth 100000 in
theorem c148_19_v : ValidC PPk c148_19 := ct_ok fpk ⟨(hOr_ok (hOpen_ok 12 307 1) (hClose_ok 53 307 1)), noM_ok⟩ (d := 0) (ext := []) (pts := c148_19_pts) (env := c148_19_e) rfl (fun _ h => (by cases h)) ext_nil (fun q h => (by cases h; exact Nat.le_of_ble_eq_true rfl)) (enF c148_19_k) (fun _ h => (by cases h))

noncomputable def c148_20 : Ct := (148, 1, (36, [(0, (.ofNat 0), (.ofNat 11)), (1, (.ofNat 0), (.ofNat 7)), (2, (.negSucc 2147483647), (.ofNat 2147483647)), (3, (.ofNat 0), (.ofNat 69)), (4, (.ofNat 0), (.ofNat 69)), (5, (.ofNat 0), (.ofNat 8)), (6, (.negSucc 2147483647), (.ofNat 2147483647)), (7, (.negSucc 2147483647), (.ofNat 2147483647)), (8, (.negSucc 2147483647), (.ofNat 2147483647)), (9, (.negSucc 2147483647), (.ofNat 2147483647)), (10, (.negSucc 2147483647), (.ofNat 2147483647)), (11, (.negSucc 2147483647), (.ofNat 2147483647)), (12, (.negSucc 2147483647), (.ofNat 2147483647)), (13, (.ofNat 1), (.ofNat 4)), (14, (.ofNat 0), (.ofNat 60)), (15, (.ofNat 0), (.ofNat 8)), (16, (.ofNat 0), (.ofNat 6)), (17, (.ofNat 0), (.ofNat 8)), (18, (.ofNat 0), (.ofNat 60)), (19, (.ofNat 0), (.ofNat 60)), (20, (.ofNat 0), (.ofNat 10)), (21, (.negSucc 2147483647), (.ofNat 2147483647)), (22, (.ofNat 0), (.ofNat 1)), (23, (.ofNat 0), (.ofNat 1)), (24, (.ofNat 0), (.ofNat 1)), (25, (.ofNat 0), (.ofNat 1))], [((.ofNat 1), [(22, (.negSucc 0)), (23, (.negSucc 0)), (24, (.negSucc 0)), (25, (.negSucc 0))])], [.inr (.inl (some 0)), .inl (false, ((.ofNat 440), [])), .inl (false, ((.ofNat 6), [])), .inl (false, ((.ofNat 9), [])), .inl (false, ((.ofNat 0), [(0, (.ofNat 1))])), .inl (false, ((.ofNat 0), [(1, (.ofNat 1))])), .inl (false, ((.ofNat 0), [(2, (.ofNat 1))]))], [zc628,
    zc629,
    zc59,
    zc630,
    zc61,
    zc62,
    zc63,
    .inr (1, .inr (.inl 70)),
    .inr (1, .inr (.inl 8)),
    zc30,
    zc31,
    zc32,
    zc33,
    zc34,
    .inr (1, .inr (.inl 4))], [(1, [1], []), (2, [1], [])]),
  [((36, [], [], [.inl (false, ((.ofNat 1), [(19, (.ofNat 1))]))], [zc628,
    zc806,
    zc59,
    zc630,
    zc61,
    zc62,
    zc63,
    .inr (1, .inr (.inl 70)),
    .inr (1, .inr (.inl 8)),
    zc30,
    zc31,
    zc32,
    zc33,
    zc34,
    .inr (1, .inr (.inl 4))], [(1, [1], []), (2, [1], [])]), 0, 0)])
noncomputable def c148_20_e : List Ct := []
noncomputable def c148_20_pts : List PE := []
set_option maxRecDepth 100000 in
theorem c148_20_k : enCtF c148_20 c148_20_e (c148_20_pts ++ []) (some (19, 0, 61)) ((hOr (hOpen 12 307 1) (hClose 53 307 1)), noM, 0, 9007199254745088, 36) 3000 = true := by decide +kernel
set_option maxRecDepth 100000 in
theorem c148_20_v : ValidC PPk c148_20 := ct_ok fpk ⟨(hOr_ok (hOpen_ok 12 307 1) (hClose_ok 53 307 1)), noM_ok⟩ (d := 0) (ext := []) (pts := c148_20_pts) (env := c148_20_e) rfl (fun _ h => (by cases h)) ext_nil (fun q h => (by cases h; exact Nat.le_of_ble_eq_true rfl)) (enF c148_20_k) (fun _ h => (by cases h))

noncomputable def c148_21 : Ct := (148, 1, (36, [(0, (.ofNat 0), (.ofNat 11)), (1, (.ofNat 1), (.ofNat 20)), (2, (.negSucc 2147483647), (.ofNat 2147483647)), (3, (.ofNat 0), (.ofNat 69)), (4, (.ofNat 0), (.ofNat 69)), (5, (.ofNat 0), (.ofNat 8)), (6, (.negSucc 2147483647), (.ofNat 2147483647)), (7, (.negSucc 2147483647), (.ofNat 2147483647)), (8, (.negSucc 2147483647), (.ofNat 2147483647)), (9, (.negSucc 2147483647), (.ofNat 2147483647)), (10, (.negSucc 2147483647), (.ofNat 2147483647)), (11, (.negSucc 2147483647), (.ofNat 2147483647)), (12, (.negSucc 2147483647), (.ofNat 2147483647)), (13, (.ofNat 1), (.ofNat 4)), (14, (.ofNat 0), (.ofNat 60)), (15, (.ofNat 0), (.ofNat 8)), (16, (.ofNat 0), (.ofNat 6)), (17, (.ofNat 0), (.ofNat 8)), (18, (.ofNat 0), (.ofNat 60)), (19, (.ofNat 0), (.ofNat 60)), (20, (.ofNat 0), (.ofNat 10)), (21, (.negSucc 2147483647), (.ofNat 2147483647)), (22, (.ofNat 0), (.ofNat 1)), (23, (.ofNat 0), (.ofNat 1)), (24, (.ofNat 0), (.ofNat 1)), (25, (.ofNat 0), (.ofNat 1))], [((.ofNat 1), [(22, (.negSucc 0)), (23, (.negSucc 0)), (24, (.negSucc 0)), (25, (.negSucc 0))])], [.inr (.inl (some 0)), .inl (false, ((.ofNat 440), [])), .inl (false, ((.ofNat 6), [])), .inl (false, ((.ofNat 10), [])), .inl (false, ((.ofNat 0), [(0, (.ofNat 1))])), .inl (false, ((.ofNat 0), [(1, (.ofNat 1))])), .inl (false, ((.ofNat 0), [(2, (.ofNat 1))]))], [zc628,
    zc629,
    zc59,
    zc630,
    zc61,
    zc62,
    zc63,
    .inr (1, .inr (.inl 70)),
    .inr (1, .inr (.inl 8)),
    zc30,
    zc31,
    zc32,
    zc33,
    zc34,
    .inr (1, .inr (.inl 4))], [(1, [1], []), (2, [1], [])]),
  [((36, [], [], [.inl (false, ((.ofNat 1), [(19, (.ofNat 1))]))], [zc628,
    zc806,
    zc59,
    zc630,
    zc61,
    zc62,
    zc63,
    .inr (1, .inr (.inl 70)),
    .inr (1, .inr (.inl 8)),
    zc30,
    zc31,
    zc32,
    zc33,
    zc34,
    .inr (1, .inr (.inl 4))], [(1, [1], []), (2, [1], [])]), 0, 0)])
noncomputable def c148_21_e : List Ct := []
noncomputable def c148_21_pts : List PE := []
set_option maxRecDepth 100000 in
theorem c148_21_k : enCtF c148_21 c148_21_e (c148_21_pts ++ []) (some (19, 0, 61)) ((hOr (hOpen 12 307 1) (hClose 53 307 1)), noM, 0, 9007199254745088, 36) 3000 = true := by decide +kernel
set_option maxRecDepth 100000 in
theorem c148_21_v : ValidC PPk c148_21 := ct_ok fpk ⟨(hOr_ok (hOpen_ok 12 307 1) (hClose_ok 53 307 1)), noM_ok⟩ (d := 0) (ext := []) (pts := c148_21_pts) (env := c148_21_e) rfl (fun _ h => (by cases h)) ext_nil (fun q h => (by cases h; exact Nat.le_of_ble_eq_true rfl)) (enF c148_21_k) (fun _ h => (by cases h))

noncomputable def c203_0 : Ct := (203, 3, (37, [(0, (.negSucc 2147483647), (.ofNat 2147483647)), (1, (.negSucc 2147483647), (.ofNat 2147483647)), (2, (.negSucc 2147483647), (.ofNat 2147483647)), (3, (.negSucc 2147483647), (.ofNat 2147483647)), (4, (.ofNat 0), (.ofNat 69)), (5, (.ofNat 0), (.ofNat 69)), (6, (.ofNat 0), (.ofNat 8)), (7, (.negSucc 2147483647), (.ofNat 2147483647)), (8, (.negSucc 2147483647), (.ofNat 2147483647)), (9, (.negSucc 2147483647), (.ofNat 2147483647)), (10, (.negSucc 2147483647), (.ofNat 2147483647)), (11, (.negSucc 2147483647), (.ofNat 2147483647)), (12, (.negSucc 2147483647), (.ofNat 2147483647)), (13, (.negSucc 2147483647), (.ofNat 2147483647)), (14, (.ofNat 1), (.ofNat 4)), (15, (.ofNat 0), (.ofNat 60)), (16, (.ofNat 0), (.ofNat 8)), (17, (.ofNat 0), (.ofNat 6)), (18, (.ofNat 0), (.ofNat 8)), (19, (.ofNat 0), (.ofNat 60)), (20, (.ofNat 0), (.ofNat 60)), (21, (.ofNat 0), (.ofNat 10)), (22, (.negSucc 2147483647), (.ofNat 2147483647)), (23, (.ofNat 0), (.ofNat 1)), (24, (.ofNat 0), (.ofNat 1)), (25, (.ofNat 0), (.ofNat 1)), (26, (.ofNat 0), (.ofNat 1))], [((.ofNat 1), [(23, (.negSucc 0)), (24, (.negSucc 0)), (25, (.negSucc 0)), (26, (.negSucc 0))])], [.inr (.inl (some 0)), .inl (false, ((.ofNat 0), [(0, (.ofNat 1))])), .inl (false, ((.ofNat 0), [(1, (.ofNat 1))])), .inl (false, ((.ofNat 0), [(2, (.ofNat 1))])), .inl (false, ((.ofNat 0), [(3, (.ofNat 1))]))], [zc632,
    zc633,
    zc60,
    zc634,
    zc62,
    zc63,
    zc30,
    .inr (1, .inr (.inl 70)),
    .inr (1, .inr (.inl 8)),
    zc31,
    zc32,
    zc33,
    zc34,
    zc101,
    .inr (1, .inr (.inl 4))], [(1, [1], []), (2, [1], [])]),
  [((39, [(37, (.negSucc 3), (.ofNat 60)), (38, (.ofNat 0), (.ofNat 60))], [], [.inl (false, ((.ofNat 0), [(37, (.ofNat 1))]))], [zc632,
    .inr (0, .inl [.inl ((.ofNat 0), [(14, (.ofNat 1))]), .inl ((.ofNat 0), [(15, (.ofNat 1))]), .inl ((.ofNat 0), [(16, (.ofNat 1))]), .inl ((.ofNat 0), [(17, (.ofNat 1))]), .inl ((.ofNat 0), [(18, (.ofNat 1))]), .inl ((.ofNat 0), [(19, (.ofNat 1))]), .inl ((.ofNat 0), [(38, (.ofNat 1))]), .inl ((.ofNat 0), [(21, (.ofNat 1))]), .inr (5, (.negSucc 2147483647), (.ofNat 2147483647)), .inr (1, (.ofNat 0), (.ofNat 3)), .inl ((.ofNat 0), [(22, (.ofNat 1))]), .inr (2, (.negSucc 2147483647), (.ofNat 2147483647)), .inr (1, (.ofNat 1), (.ofNat 1000)), .inr (1, (.ofNat 0), (.ofNat 50)), .inr (23, (.negSucc 2147483647), (.ofNat 2147483647)), .inl ((.ofNat 0), [(23, (.ofNat 1))]), .inr (39, (.negSucc 2147483647), (.ofNat 2147483647)), .inl ((.ofNat 0), [(24, (.ofNat 1))]), .inr (39, (.negSucc 2147483647), (.ofNat 2147483647)), .inl ((.ofNat 0), [(25, (.ofNat 1))]), .inr (39, (.negSucc 2147483647), (.ofNat 2147483647)), .inl ((.ofNat 0), [(26, (.ofNat 1))]), .inr (517, (.negSucc 2147483647), (.ofNat 2147483647)), .inr (2, (.ofNat 0), (.ofNat 60)), .inr (2, (.negSucc 2147483647), (.ofNat 2147483647)), .inr (8, (.ofNat 0), (.ofNat 60)), .inr (1, (.ofNat 0), (.ofNat 5)), .inr (1, (.ofNat 0), (.ofNat 39)), .inr (1, (.ofNat 0), (.ofNat 40)), .inr (1, (.ofNat 0), (.ofNat 5)), .inr (1, (.ofNat 0), (.ofNat 39)), .inr (1, (.ofNat 0), (.ofNat 40)), .inr (1, (.ofNat 0), (.ofNat 5)), .inr (1, (.ofNat 0), (.ofNat 39)), .inr (1, (.ofNat 0), (.ofNat 40)), .inr (1, (.ofNat 0), (.ofNat 5)), .inr (1, (.ofNat 0), (.ofNat 39)), .inr (1, (.ofNat 0), (.ofNat 40)), .inr (1, (.ofNat 0), (.ofNat 5)), .inr (1, (.ofNat 0), (.ofNat 39)), .inr (1, (.ofNat 0), (.ofNat 40)), .inr (1, (.ofNat 0), (.ofNat 5)), .inr (1, (.ofNat 0), (.ofNat 39)), .inr (1, (.ofNat 0), (.ofNat 40)), .inr (1, (.ofNat 0), (.ofNat 5)), .inr (1, (.ofNat 0), (.ofNat 39)), .inr (1, (.ofNat 0), (.ofNat 40)), .inr (1, (.ofNat 0), (.ofNat 5)), .inr (1, (.ofNat 0), (.ofNat 39)), .inr (1, (.ofNat 0), (.ofNat 40)), .inr (78, (.negSucc 2147483647), (.ofNat 2147483647)), .inr (1, (.ofNat 0), (.ofNat 5)), .inr (4, (.negSucc 2147483647), (.ofNat 2147483647)), .inr (1, (.ofNat 0), (.ofNat 5)), .inr (4, (.negSucc 2147483647), (.ofNat 2147483647)), .inr (1, (.ofNat 0), (.ofNat 5)), .inr (4, (.negSucc 2147483647), (.ofNat 2147483647)), .inr (1, (.ofNat 0), (.ofNat 5)), .inr (4, (.negSucc 2147483647), (.ofNat 2147483647)), .inr (1, (.ofNat 0), (.ofNat 5)), .inr (4, (.negSucc 2147483647), (.ofNat 2147483647)), .inr (1, (.ofNat 0), (.ofNat 5)), .inr (4, (.negSucc 2147483647), (.ofNat 2147483647)), .inr (1, (.ofNat 0), (.ofNat 5)), .inr (4, (.negSucc 2147483647), (.ofNat 2147483647)), .inr (1, (.ofNat 0), (.ofNat 5)), .inr (2, (.negSucc 2147483647), (.ofNat 2147483647)), .inr (60, (.ofNat 0), (.ofNat 127)), .inr (18, (.negSucc 2147483647), (.ofNat 2147483647))]),
    zc60,
    zc634,
    zc62,
    zc63,
    zc30,
    .inr (1, .inr (.inl 70)),
    .inr (1, .inr (.inl 8)),
    zc31,
    zc32,
    zc33,
    zc34,
    zc101,
    .inr (1, .inr (.inl 4))], [(1, [1], []), (2, [1], [])]), 0, 0)])
noncomputable def c203_0_e : List Ct := [c147_0, c148_11, c148_12, c148_13, c148_14, c148_15, c148_16, c148_17, c148_18, c148_19, c148_20, c148_21]
noncomputable def c203_0_pts : List PE := []
set_option maxRecDepth 100000 in
theorem c203_0_k : enCtF c203_0 c203_0_e (c203_0_pts ++ []) (none) noH 3000 = true := by decide +kernel
set_option maxRecDepth 100000 in
theorem c203_0_v : ValidC PPk c203_0 := ct_ok fpk noH_ok (d := 2) (ext := []) (pts := c203_0_pts) (env := c203_0_e) rfl (List.forall_mem_cons.mpr ⟨⟨c147_0_v, Nat.le_of_ble_eq_true rfl⟩, List.forall_mem_cons.mpr ⟨⟨c148_11_v, Nat.le_of_ble_eq_true rfl⟩, List.forall_mem_cons.mpr ⟨⟨c148_12_v, Nat.le_of_ble_eq_true rfl⟩, List.forall_mem_cons.mpr ⟨⟨c148_13_v, Nat.le_of_ble_eq_true rfl⟩, List.forall_mem_cons.mpr ⟨⟨c148_14_v, Nat.le_of_ble_eq_true rfl⟩, List.forall_mem_cons.mpr ⟨⟨c148_15_v, Nat.le_of_ble_eq_true rfl⟩, List.forall_mem_cons.mpr ⟨⟨c148_16_v, Nat.le_of_ble_eq_true rfl⟩, List.forall_mem_cons.mpr ⟨⟨c148_17_v, Nat.le_of_ble_eq_true rfl⟩, List.forall_mem_cons.mpr ⟨⟨c148_18_v, Nat.le_of_ble_eq_true rfl⟩, List.forall_mem_cons.mpr ⟨⟨c148_19_v, Nat.le_of_ble_eq_true rfl⟩, List.forall_mem_cons.mpr ⟨⟨c148_20_v, Nat.le_of_ble_eq_true rfl⟩, List.forall_mem_cons.mpr ⟨⟨c148_21_v, Nat.le_of_ble_eq_true rfl⟩, fun _ h => (by cases h)⟩⟩⟩⟩⟩⟩⟩⟩⟩⟩⟩⟩) ext_nil (fun q h => (by cases h)) (enF c203_0_k) (fun _ h => (by cases h))

noncomputable def c204_0 : Ct := (204, 1, (33, [(0, (.ofNat 0), (.ofNat 69)), (1, (.ofNat 0), (.ofNat 69)), (2, (.ofNat 0), (.ofNat 8)), (3, (.negSucc 2147483647), (.ofNat 2147483647)), (4, (.negSucc 2147483647), (.ofNat 2147483647)), (5, (.negSucc 2147483647), (.ofNat 2147483647)), (6, (.negSucc 2147483647), (.ofNat 2147483647)), (7, (.negSucc 2147483647), (.ofNat 2147483647)), (8, (.negSucc 2147483647), (.ofNat 2147483647)), (9, (.negSucc 2147483647), (.ofNat 2147483647)), (10, (.ofNat 1), (.ofNat 4)), (11, (.ofNat 0), (.ofNat 60)), (12, (.ofNat 0), (.ofNat 8)), (13, (.ofNat 0), (.ofNat 6)), (14, (.ofNat 0), (.ofNat 8)), (15, (.ofNat 0), (.ofNat 60)), (16, (.ofNat 0), (.ofNat 60)), (17, (.ofNat 0), (.ofNat 10)), (18, (.negSucc 2147483647), (.ofNat 2147483647)), (19, (.ofNat 0), (.ofNat 1)), (20, (.ofNat 0), (.ofNat 1)), (21, (.ofNat 0), (.ofNat 1)), (22, (.ofNat 0), (.ofNat 1))], [((.ofNat 1), [(19, (.negSucc 0)), (20, (.negSucc 0)), (21, (.negSucc 0)), (22, (.negSucc 0))])], [.inr (.inl (some 0))], [zc635,
    zc636,
    zc56,
    zc637,
    zc97,
    zc59,
    zc60,
    .inr (1, .inr (.inl 70)),
    .inr (1, .inr (.inl 8)),
    zc61,
    zc62,
    zc63,
    zc30,
    zc31,
    .inr (1, .inr (.inl 4))], [(1, [1], []), (2, [1], [])]),
  [((33, [], [], [.inl (false, ((.ofNat 0), [(16, (.ofNat 1))]))], [zc635,
    .inr (0, .inl [.inl ((.ofNat 0), [(10, (.ofNat 1))]), .inl ((.ofNat 0), [(11, (.ofNat 1))]), .inl ((.ofNat 0), [(12, (.ofNat 1))]), .inl ((.ofNat 0), [(13, (.ofNat 1))]), .inl ((.ofNat 0), [(14, (.ofNat 1))]), .inl ((.ofNat 0), [(15, (.ofNat 1))]), .inl ((.ofNat 0), []), .inl ((.ofNat 0), [(17, (.ofNat 1))]), .inr (5, (.negSucc 2147483647), (.ofNat 2147483647)), .inr (1, (.ofNat 0), (.ofNat 3)), .inl ((.ofNat 0), [(18, (.ofNat 1))]), .inr (2, (.negSucc 2147483647), (.ofNat 2147483647)), .inr (1, (.ofNat 1), (.ofNat 1000)), .inr (1, (.ofNat 0), (.ofNat 50)), .inr (23, (.negSucc 2147483647), (.ofNat 2147483647)), .inl ((.ofNat 0), [(19, (.ofNat 1))]), .inr (39, (.negSucc 2147483647), (.ofNat 2147483647)), .inl ((.ofNat 0), [(20, (.ofNat 1))]), .inr (39, (.negSucc 2147483647), (.ofNat 2147483647)), .inl ((.ofNat 0), [(21, (.ofNat 1))]), .inr (39, (.negSucc 2147483647), (.ofNat 2147483647)), .inl ((.ofNat 0), [(22, (.ofNat 1))]), .inr (517, (.negSucc 2147483647), (.ofNat 2147483647)), .inr (12, (.ofNat 0), (.ofNat 60)), .inr (1, (.ofNat 0), (.ofNat 5)), .inr (1, (.ofNat 0), (.ofNat 39)), .inr (1, (.ofNat 0), (.ofNat 40)), .inr (1, (.ofNat 0), (.ofNat 5)), .inr (1, (.ofNat 0), (.ofNat 39)), .inr (1, (.ofNat 0), (.ofNat 40)), .inr (1, (.ofNat 0), (.ofNat 5)), .inr (1, (.ofNat 0), (.ofNat 39)), .inr (1, (.ofNat 0), (.ofNat 40)), .inr (1, (.ofNat 0), (.ofNat 5)), .inr (1, (.ofNat 0), (.ofNat 39)), .inr (1, (.ofNat 0), (.ofNat 40)), .inr (1, (.ofNat 0), (.ofNat 5)), .inr (1, (.ofNat 0), (.ofNat 39)), .inr (1, (.ofNat 0), (.ofNat 40)), .inr (1, (.ofNat 0), (.ofNat 5)), .inr (1, (.ofNat 0), (.ofNat 39)), .inr (1, (.ofNat 0), (.ofNat 40)), .inr (1, (.ofNat 0), (.ofNat 5)), .inr (1, (.ofNat 0), (.ofNat 39)), .inr (1, (.ofNat 0), (.ofNat 40)), .inr (1, (.ofNat 0), (.ofNat 5)), .inr (1, (.ofNat 0), (.ofNat 39)), .inr (1, (.ofNat 0), (.ofNat 40)), .inr (76, (.negSucc 2147483647), (.ofNat 2147483647)), .inr (2, (.negSucc 2147483647), (.ofNat 2147483647)), .inr (1, (.ofNat 0), (.ofNat 5)), .inr (2, (.negSucc 2147483647), (.ofNat 2147483647)), .inr (2, (.negSucc 2147483647), (.ofNat 2147483647)), .inr (1, (.ofNat 0), (.ofNat 5)), .inr (2, (.negSucc 2147483647), (.ofNat 2147483647)), .inr (2, (.negSucc 2147483647), (.ofNat 2147483647)), .inr (1, (.ofNat 0), (.ofNat 5)), .inr (2, (.negSucc 2147483647), (.ofNat 2147483647)), .inr (2, (.negSucc 2147483647), (.ofNat 2147483647)), .inr (1, (.ofNat 0), (.ofNat 5)), .inr (2, (.negSucc 2147483647), (.ofNat 2147483647)), .inr (2, (.negSucc 2147483647), (.ofNat 2147483647)), .inr (1, (.ofNat 0), (.ofNat 5)), .inr (2, (.negSucc 2147483647), (.ofNat 2147483647)), .inr (2, (.negSucc 2147483647), (.ofNat 2147483647)), .inr (1, (.ofNat 0), (.ofNat 5)), .inr (2, (.negSucc 2147483647), (.ofNat 2147483647)), .inr (2, (.negSucc 2147483647), (.ofNat 2147483647)), .inr (1, (.ofNat 0), (.ofNat 5)), .inr (2, (.negSucc 2147483647), (.ofNat 2147483647)), .inr (2, (.negSucc 2147483647), (.ofNat 2147483647)), .inr (1, (.ofNat 0), (.ofNat 5)), .inr (2, (.negSucc 2147483647), (.ofNat 2147483647)), .inr (60, (.ofNat 0), (.ofNat 127)), .inr (18, (.negSucc 2147483647), (.ofNat 2147483647))]),
    zc56,
    zc637,
    zc97,
    zc59,
    zc60,
    .inr (1, .inr (.inl 70)),
    .inr (1, .inr (.inl 8)),
    zc61,
    zc62,
    zc63,
    zc30,
    zc31,
    .inr (1, .inr (.inl 4))], [(1, [1], []), (2, [1], [])]), 0, 0)])
noncomputable def c204_0_e : List Ct := []
noncomputable def c204_0_pts : List PE := []
set_option maxRecDepth 100000 in
theorem c204_0_k : enCtF c204_0 c204_0_e (c204_0_pts ++ []) (none) noH 3000 = true := by decide +kernel
set_option maxRecDepth 100000 in
theorem c204_0_v : ValidC PPk c204_0 := ct_ok fpk noH_ok (d := 0) (ext := []) (pts := c204_0_pts) (env := c204_0_e) rfl (fun _ h => (by cases h)) ext_nil (fun q h => (by cases h)) (enF c204_0_k) (fun _ h => (by cases h))

noncomputable def c206_0 : Ct := (206, 1, (34, [(0, (.negSucc 2147483647), (.ofNat 2147483647)), (1, (.ofNat 0), (.ofNat 69)), (2, (.ofNat 0), (.ofNat 69)), (3, (.ofNat 0), (.ofNat 8)), (4, (.negSucc 2147483647), (.ofNat 2147483647)), (5, (.negSucc 2147483647), (.ofNat 2147483647)), (6, (.negSucc 2147483647), (.ofNat 2147483647)), (7, (.negSucc 2147483647), (.ofNat 2147483647)), (8, (.negSucc 2147483647), (.ofNat 2147483647)), (9, (.negSucc 2147483647), (.ofNat 2147483647)), (10, (.negSucc 2147483647), (.ofNat 2147483647)), (11, (.ofNat 1), (.ofNat 4)), (12, (.ofNat 0), (.ofNat 60)), (13, (.ofNat 0), (.ofNat 8)), (14, (.ofNat 0), (.ofNat 6)), (15, (.ofNat 0), (.ofNat 8)), (16, (.ofNat 0), (.ofNat 60)), (17, (.ofNat 0), (.ofNat 60)), (18, (.ofNat 0), (.ofNat 10)), (19, (.negSucc 2147483647), (.ofNat 2147483647)), (20, (.ofNat 0), (.ofNat 1)), (21, (.ofNat 0), (.ofNat 1)), (22, (.ofNat 0), (.ofNat 1)), (23, (.ofNat 0), (.ofNat 1))], [((.ofNat 1), [(20, (.negSucc 0)), (21, (.negSucc 0)), (22, (.negSucc 0)), (23, (.negSucc 0))])], [.inr (.inl (some 0)), .inl (false, ((.ofNat 0), [(0, (.ofNat 1))]))], [zc620,
    zc621,
    zc57,
    zc622,
    zc59,
    zc60,
    zc61,
    .inr (1, .inr (.inl 70)),
    .inr (1, .inr (.inl 8)),
    zc62,
    zc63,
    zc30,
    zc31,
    zc32,
    .inr (1, .inr (.inl 4))], [(1, [1], []), (2, [1], [])]),
  [((35, [(34, (.negSucc 2147483647), (.ofNat 2147483647))], [], [.inl (false, ((.ofNat 0), [(34, (.ofNat 1))]))], [zc620,
    zc621,
    zc57,
    zc622,
    zc59,
    zc60,
    zc61,
    .inr (1, .inr (.inl 70)),
    .inr (1, .inr (.inl 8)),
    zc62,
    zc63,
    zc30,
    zc31,
    zc32,
    .inr (1, .inr (.inl 4))], [(1, [1], []), (2, [1], [])]), 0, 0)])
noncomputable def c206_0_e : List Ct := []
noncomputable def c206_0_p0 : PE := (42, [0, 1, 2, 3, 4, 5], (38, [(0, (.negSucc 2147483647), (.ofNat 2147483647)), (1, (.ofNat 0), (.ofNat 69)), (2, (.ofNat 0), (.ofNat 69)), (3, (.ofNat 0), (.ofNat 8)), (4, (.negSucc 2147483647), (.ofNat 2147483647)), (5, (.negSucc 2147483647), (.ofNat 2147483647)), (6, (.negSucc 2147483647), (.ofNat 2147483647)), (7, (.negSucc 2147483647), (.ofNat 2147483647)), (8, (.negSucc 2147483647), (.ofNat 2147483647)), (9, (.negSucc 2147483647), (.ofNat 2147483647)), (10, (.negSucc 2147483647), (.ofNat 2147483647)), (11, (.ofNat 1), (.ofNat 4)), (12, (.ofNat 0), (.ofNat 60)), (13, (.ofNat 0), (.ofNat 8)), (14, (.ofNat 0), (.ofNat 6)), (15, (.ofNat 0), (.ofNat 8)), (16, (.ofNat 0), (.ofNat 60)), (17, (.ofNat 0), (.ofNat 60)), (18, (.ofNat 0), (.ofNat 10)), (19, (.negSucc 2147483647), (.ofNat 2147483647)), (20, (.ofNat 0), (.ofNat 1)), (21, (.ofNat 0), (.ofNat 1)), (22, (.ofNat 0), (.ofNat 1)), (23, (.ofNat 0), (.ofNat 1)), (34, (.ofNat 0), (.ofNat 60)), (35, (.ofNat 200), (.ofNat 440)), (36, (.negSucc 2147483647), (.ofNat 2147483647)), (37, (.ofNat 0), (.ofNat 439))], [((.ofNat 1), [(20, (.negSucc 0)), (21, (.negSucc 0)), (22, (.negSucc 0)), (23, (.negSucc 0))])], [.inr (.inl (some 0)), .inl (false, ((.ofNat 0), [(0, (.ofNat 1))])), .inl (false, ((.ofNat 0), [(34, (.ofNat 1))])), .inl (false, ((.ofNat 0), [(35, (.ofNat 1))])), .inl (false, ((.ofNat 0), [(36, (.ofNat 1))])), .inl (false, ((.ofNat 0), [(37, (.ofNat 1))]))], [zc620,
    zc621,
    zc57,
    zc622,
    zc59,
    zc60,
    zc61,
    .inr (1, .inr (.inl 70)),
    .inr (1, .inr (.inl 8)),
    zc62,
    zc63,
    zc30,
    zc31,
    zc32,
    .inr (1, .inr (.inl 4))], [(1, [1], []), (2, [1], [])]), symsL 34 0, some ((.ofNat 879), [(37, (.negSucc 0))]), 0, 0)
noncomputable def c206_0_pts : List PE := [c206_0_p0]
set_option maxRecDepth 100000 in
theorem c206_0_k : enCtF c206_0 c206_0_e (c206_0_pts ++ []) (none) (noF, noM, 4398046511104, 0, 34) 3000 = true := by decide +kernel
set_option maxRecDepth 100000 in
theorem c206_0_k0 : ptCtF c206_0 c206_0_e (c206_0_pts ++ []) (noF, noM, 4398046511104, 0, 34) 3000 c206_0_p0 = true := by decide +kernel
set_option maxRecDepth 100000 in
theorem c206_0_v : ValidC PPk c206_0 := ct_ok fpk ⟨noF_ok, noM_ok⟩ (d := 0) (ext := []) (pts := c206_0_pts) (env := c206_0_e) rfl (fun _ h => (by cases h)) ext_nil (fun q h => (by cases h)) (enF c206_0_k) (List.forall_mem_cons.mpr ⟨ptF c206_0_k0, fun _ h => (by cases h)⟩)

noncomputable def c205_0 : Ct := (205, 2, (34, [(0, (.negSucc 2147483647), (.ofNat 2147483647)), (1, (.ofNat 0), (.ofNat 69)), (2, (.ofNat 0), (.ofNat 69)), (3, (.ofNat 0), (.ofNat 8)), (4, (.negSucc 2147483647), (.ofNat 2147483647)), (5, (.negSucc 2147483647), (.ofNat 2147483647)), (6, (.negSucc 2147483647), (.ofNat 2147483647)), (7, (.negSucc 2147483647), (.ofNat 2147483647)), (8, (.negSucc 2147483647), (.ofNat 2147483647)), (9, (.negSucc 2147483647), (.ofNat 2147483647)), (10, (.negSucc 2147483647), (.ofNat 2147483647)), (11, (.ofNat 1), (.ofNat 4)), (12, (.ofNat 0), (.ofNat 60)), (13, (.ofNat 0), (.ofNat 8)), (14, (.ofNat 0), (.ofNat 6)), (15, (.ofNat 0), (.ofNat 8)), (16, (.ofNat 0), (.ofNat 60)), (17, (.ofNat 0), (.ofNat 60)), (18, (.ofNat 0), (.ofNat 10)), (19, (.negSucc 2147483647), (.ofNat 2147483647)), (20, (.ofNat 0), (.ofNat 1)), (21, (.ofNat 0), (.ofNat 1)), (22, (.ofNat 0), (.ofNat 1)), (23, (.ofNat 0), (.ofNat 1))], [((.ofNat 1), [(20, (.negSucc 0)), (21, (.negSucc 0)), (22, (.negSucc 0)), (23, (.negSucc 0))])], [.inr (.inl (some 0)), .inl (false, ((.ofNat 0), [(0, (.ofNat 1))]))], [zc620,
    zc621,
    zc57,
    zc622,
    zc59,
    zc60,
    zc61,
    .inr (1, .inr (.inl 70)),
    .inr (1, .inr (.inl 8)),
    zc62,
    zc63,
    zc30,
    zc31,
    zc32,
    .inr (1, .inr (.inl 4))], [(1, [1], []), (2, [1], [])]),
  [((35, [(34, (.negSucc 2147483647), (.ofNat 2147483647))], [], [.inl (false, ((.ofNat 0), [(34, (.ofNat 1))]))], [zc620,
    zc621,
    zc57,
    zc622,
    zc59,
    zc60,
    zc61,
    .inr (1, .inr (.inl 70)),
    .inr (1, .inr (.inl 8)),
    zc62,
    zc63,
    zc30,
    zc31,
    zc32,
    .inr (1, .inr (.inl 4))], [(1, [1], []), (2, [1], [])]), 0, 0)])
noncomputable def c205_0_e : List Ct := [c145_0, c206_0]
noncomputable def c205_0_pts : List PE := []
set_option maxRecDepth 100000 in
theorem c205_0_k : enCtF c205_0 c205_0_e (c205_0_pts ++ []) (none) noH 3000 = true := by decide +kernel
set_option maxRecDepth 100000 in
theorem c205_0_v : ValidC PPk c205_0 := ct_ok fpk noH_ok (d := 1) (ext := []) (pts := c205_0_pts) (env := c205_0_e) rfl (List.forall_mem_cons.mpr ⟨⟨c145_0_v, Nat.le_of_ble_eq_true rfl⟩, List.forall_mem_cons.mpr ⟨⟨c206_0_v, Nat.le_of_ble_eq_true rfl⟩, fun _ h => (by cases h)⟩⟩) ext_nil (fun q h => (by cases h)) (enF c205_0_k) (fun _ h => (by cases h))

noncomputable def c207_0 : Ct := (207, 2, (35, [(0, (.negSucc 2147483647), (.ofNat 2147483647)), (1, (.negSucc 2147483647), (.ofNat 2147483647)), (2, (.ofNat 0), (.ofNat 69)), (3, (.ofNat 0), (.ofNat 69)), (4, (.ofNat 0), (.ofNat 8)), (5, (.negSucc 2147483647), (.ofNat 2147483647)), (6, (.negSucc 2147483647), (.ofNat 2147483647)), (7, (.negSucc 2147483647), (.ofNat 2147483647)), (8, (.negSucc 2147483647), (.ofNat 2147483647)), (9, (.negSucc 2147483647), (.ofNat 2147483647)), (10, (.negSucc 2147483647), (.ofNat 2147483647)), (11, (.negSucc 2147483647), (.ofNat 2147483647)), (12, (.ofNat 1), (.ofNat 4)), (13, (.ofNat 0), (.ofNat 60)), (14, (.ofNat 0), (.ofNat 8)), (15, (.ofNat 0), (.ofNat 6)), (16, (.ofNat 0), (.ofNat 8)), (17, (.ofNat 0), (.ofNat 60)), (18, (.ofNat 0), (.ofNat 60)), (19, (.ofNat 0), (.ofNat 10)), (20, (.negSucc 2147483647), (.ofNat 2147483647)), (21, (.ofNat 0), (.ofNat 1)), (22, (.ofNat 0), (.ofNat 1)), (23, (.ofNat 0), (.ofNat 1)), (24, (.ofNat 0), (.ofNat 1))], [((.ofNat 1), [(21, (.negSucc 0)), (22, (.negSucc 0)), (23, (.negSucc 0)), (24, (.negSucc 0))])], [.inr (.inl (some 0)), .inl (false, ((.ofNat 0), [(0, (.ofNat 1))])), .inl (false, ((.ofNat 0), [(1, (.ofNat 1))]))], [zc638,
    zc639,
    zc97,
    zc640,
    zc60,
    zc61,
    zc62,
    .inr (1, .inr (.inl 70)),
    .inr (1, .inr (.inl 8)),
    zc63,
    zc30,
    zc31,
    zc32,
    zc33,
    .inr (1, .inr (.inl 4))], [(1, [1], []), (2, [1], [])]),
  [((36, [(35, (.negSucc 2), (.ofNat 1))], [], [.inl (false, ((.ofNat 0), [(35, (.ofNat 1))]))], [zc638,
    zc639,
    zc97,
    zc640,
    zc60,
    zc61,
    zc62,
    .inr (1, .inr (.inl 70)),
    .inr (1, .inr (.inl 8)),
    zc63,
    zc30,
    zc31,
    zc32,
    zc33,
    .inr (1, .inr (.inl 4))], [(1, [1], []), (2, [1], [])]), 0, 0)])
noncomputable def c207_0_e : List Ct := [c145_0, c206_0]
noncomputable def c207_0_pts : List PE := []
set_option maxRecDepth 100000 in
theorem c207_0_k : enCtF c207_0 c207_0_e (c207_0_pts ++ []) (none) noH 3000 = true := by decide +kernel
set_option maxRecDepth 100000 in
theorem c207_0_v : ValidC PPk c207_0 := ct_ok fpk noH_ok (d := 1) (ext := []) (pts := c207_0_pts) (env := c207_0_e) rfl (List.forall_mem_cons.mpr ⟨⟨c145_0_v, Nat.le_of_ble_eq_true rfl⟩, List.forall_mem_cons.mpr ⟨⟨c206_0_v, Nat.le_of_ble_eq_true rfl⟩, fun _ h => (by cases h)⟩⟩) ext_nil (fun q h => (by cases h)) (enF c207_0_k) (fun _ h => (by cases h))

def zc807 : AC := .inr (0, .inl [.inr (910, (.negSucc 2147483647), (.ofNat 2147483647))])
noncomputable def c209_0 : Ct := (209, 1, (32, [(0, (.ofNat 0), (.ofNat 69)), (1, (.ofNat 0), (.ofNat 69)), (2, (.ofNat 0), (.ofNat 8)), (3, (.negSucc 2147483647), (.ofNat 2147483647)), (4, (.negSucc 2147483647), (.ofNat 2147483647)), (5, (.negSucc 2147483647), (.ofNat 2147483647)), (6, (.negSucc 2147483647), (.ofNat 2147483647)), (7, (.negSucc 2147483647), (.ofNat 2147483647)), (8, (.negSucc 2147483647), (.ofNat 2147483647)), (9, (.negSucc 2147483647), (.ofNat 2147483647)), (10, (.ofNat 1), (.ofNat 4)), (11, (.ofNat 0), (.ofNat 60)), (12, (.ofNat 0), (.ofNat 8)), (13, (.ofNat 0), (.ofNat 6)), (14, (.ofNat 0), (.ofNat 8)), (15, (.ofNat 0), (.ofNat 60)), (16, (.ofNat 0), (.ofNat 60)), (17, (.ofNat 0), (.ofNat 10)), (18, (.negSucc 2147483647), (.ofNat 2147483647)), (19, (.ofNat 0), (.ofNat 1)), (20, (.ofNat 0), (.ofNat 1)), (21, (.ofNat 0), (.ofNat 1)), (22, (.ofNat 0), (.ofNat 1))], [((.ofNat 1), [(19, (.negSucc 0)), (20, (.negSucc 0)), (21, (.negSucc 0)), (22, (.negSucc 0))])], [.inr (.inl (some 0))], [zc635,
    zc636,
    zc56,
    zc637,
    zc97,
    zc59,
    zc60,
    .inr (1, .inr (.inl 70)),
    .inr (1, .inr (.inl 8)),
    zc807,
    zc61,
    zc62,
    zc63,
    zc30,
    .inr (1, .inr (.inl 4))], [(1, [1], []), (2, [1], [])]),
  [((32, [], [], [], [zc635,
    zc636,
    zc56,
    zc637,
    zc97,
    zc59,
    zc60,
    .inr (1, .inr (.inl 70)),
    .inr (1, .inr (.inl 8)),
    zc636,
    zc61,
    zc62,
    zc63,
    zc30,
    .inr (1, .inr (.inl 4))], [(1, [9], []), (2, [9], []), (1, [1], []), (2, [1], [])]), 0, 0)])
noncomputable def c209_0_e : List Ct := []
noncomputable def c209_0_pts : List PE := []
set_option maxRecDepth 100000 in
theorem c209_0_k : enCtF c209_0 c209_0_e (c209_0_pts ++ []) (none) (noF, (mCopy 2 1 12 12 0 27), 0, 4, 32) 3000 = true := by decide +kernel
set_option maxRecDepth 100000 in
theorem c209_0_v : ValidC PPk c209_0 := ct_ok fpk ⟨noF_ok, (mCopy_ok 2 1 12 12 0 27)⟩ (d := 0) (ext := []) (pts := c209_0_pts) (env := c209_0_e) rfl (fun _ h => (by cases h)) ext_nil (fun q h => (by cases h)) (enF c209_0_k) (fun _ h => (by cases h))

def zc808 : AC := .inr (0, .inl [.inl ((.ofNat 0), [(28, (.ofNat 1))]), .inl ((.ofNat 0), [(29, (.ofNat 1))]), .inl ((.ofNat 0), [(30, (.ofNat 1))]), .inl ((.ofNat 0), [(31, (.ofNat 1))]), .inl ((.ofNat 0), [(32, (.ofNat 1))]), .inl ((.ofNat 0), [(33, (.ofNat 1))]), .inl ((.ofNat 0), [(34, (.ofNat 1))]), .inl ((.ofNat 0), [(35, (.ofNat 1))]), .inr (5, (.negSucc 2147483647), (.ofNat 2147483647)), .inr (1, (.ofNat 0), (.ofNat 3)), .inl ((.ofNat 0), [(36, (.ofNat 1))]), .inr (2, (.negSucc 2147483647), (.ofNat 2147483647)), .inr (1, (.ofNat 1), (.ofNat 1000)), .inr (1, (.ofNat 0), (.ofNat 50)), .inr (23, (.negSucc 2147483647), (.ofNat 2147483647)), .inl ((.ofNat 0), [(37, (.ofNat 1))]), .inr (39, (.negSucc 2147483647), (.ofNat 2147483647)), .inl ((.ofNat 0), [(38, (.ofNat 1))]), .inr (39, (.negSucc 2147483647), (.ofNat 2147483647)), .inl ((.ofNat 0), [(39, (.ofNat 1))]), .inr (39, (.negSucc 2147483647), (.ofNat 2147483647)), .inl ((.ofNat 0), [(40, (.ofNat 1))]), .inr (517, (.negSucc 2147483647), (.ofNat 2147483647)), .inr (12, (.ofNat 0), (.ofNat 60)), .inr (1, (.ofNat 0), (.ofNat 5)), .inr (1, (.ofNat 0), (.ofNat 39)), .inr (1, (.ofNat 0), (.ofNat 40)), .inr (1, (.ofNat 0), (.ofNat 5)), .inr (1, (.ofNat 0), (.ofNat 39)), .inr (1, (.ofNat 0), (.ofNat 40)), .inr (1, (.ofNat 0), (.ofNat 5)), .inr (1, (.ofNat 0), (.ofNat 39)), .inr (1, (.ofNat 0), (.ofNat 40)), .inr (1, (.ofNat 0), (.ofNat 5)), .inr (1, (.ofNat 0), (.ofNat 39)), .inr (1, (.ofNat 0), (.ofNat 40)), .inr (1, (.ofNat 0), (.ofNat 5)), .inr (1, (.ofNat 0), (.ofNat 39)), .inr (1, (.ofNat 0), (.ofNat 40)), .inr (1, (.ofNat 0), (.ofNat 5)), .inr (1, (.ofNat 0), (.ofNat 39)), .inr (1, (.ofNat 0), (.ofNat 40)), .inr (1, (.ofNat 0), (.ofNat 5)), .inr (1, (.ofNat 0), (.ofNat 39)), .inr (1, (.ofNat 0), (.ofNat 40)), .inr (1, (.ofNat 0), (.ofNat 5)), .inr (1, (.ofNat 0), (.ofNat 39)), .inr (1, (.ofNat 0), (.ofNat 40)), .inr (76, (.negSucc 2147483647), (.ofNat 2147483647)), .inr (2, (.negSucc 2147483647), (.ofNat 2147483647)), .inr (1, (.ofNat 0), (.ofNat 5)), .inr (2, (.negSucc 2147483647), (.ofNat 2147483647)), .inr (2, (.negSucc 2147483647), (.ofNat 2147483647)), .inr (1, (.ofNat 0), (.ofNat 5)), .inr (2, (.negSucc 2147483647), (.ofNat 2147483647)), .inr (2, (.negSucc 2147483647), (.ofNat 2147483647)), .inr (1, (.ofNat 0), (.ofNat 5)), .inr (2, (.negSucc 2147483647), (.ofNat 2147483647)), .inr (2, (.negSucc 2147483647), (.ofNat 2147483647)), .inr (1, (.ofNat 0), (.ofNat 5)), .inr (2, (.negSucc 2147483647), (.ofNat 2147483647)), .inr (2, (.negSucc 2147483647), (.ofNat 2147483647)), .inr (1, (.ofNat 0), (.ofNat 5)), .inr (2, (.negSucc 2147483647), (.ofNat 2147483647)), .inr (2, (.negSucc 2147483647), (.ofNat 2147483647)), .inr (1, (.ofNat 0), (.ofNat 5)), .inr (2, (.negSucc 2147483647), (.ofNat 2147483647)), .inr (2, (.negSucc 2147483647), (.ofNat 2147483647)), .inr (1, (.ofNat 0), (.ofNat 5)), .inr (2, (.negSucc 2147483647), (.ofNat 2147483647)), .inr (2, (.negSucc 2147483647), (.ofNat 2147483647)), .inr (1, (.ofNat 0), (.ofNat 5)), .inr (2, (.negSucc 2147483647), (.ofNat 2147483647)), .inr (60, (.ofNat 0), (.ofNat 127)), .inr (18, (.negSucc 2147483647), (.ofNat 2147483647))])
noncomputable def c211_0 : Ct := (211, 1, (45, [(0, (.ofNat 0), (.ofNat 69)), (1, (.ofNat 0), (.ofNat 69)), (2, (.ofNat 0), (.ofNat 8)), (3, (.negSucc 2147483647), (.ofNat 2147483647)), (4, (.negSucc 2147483647), (.ofNat 2147483647)), (5, (.negSucc 2147483647), (.ofNat 2147483647)), (6, (.negSucc 2147483647), (.ofNat 2147483647)), (7, (.negSucc 2147483647), (.ofNat 2147483647)), (8, (.negSucc 2147483647), (.ofNat 2147483647)), (9, (.negSucc 2147483647), (.ofNat 2147483647)), (10, (.ofNat 1), (.ofNat 4)), (11, (.ofNat 0), (.ofNat 60)), (12, (.ofNat 0), (.ofNat 8)), (13, (.ofNat 0), (.ofNat 6)), (14, (.ofNat 0), (.ofNat 8)), (15, (.ofNat 0), (.ofNat 60)), (16, (.ofNat 0), (.ofNat 60)), (17, (.ofNat 0), (.ofNat 10)), (18, (.negSucc 2147483647), (.ofNat 2147483647)), (19, (.ofNat 0), (.ofNat 1)), (20, (.ofNat 0), (.ofNat 1)), (21, (.ofNat 0), (.ofNat 1)), (22, (.ofNat 0), (.ofNat 1)), (28, (.ofNat 1), (.ofNat 4)), (29, (.ofNat 0), (.ofNat 60)), (30, (.ofNat 0), (.ofNat 8)), (31, (.ofNat 0), (.ofNat 6)), (32, (.ofNat 0), (.ofNat 8)), (33, (.ofNat 0), (.ofNat 60)), (34, (.ofNat 0), (.ofNat 60)), (35, (.ofNat 0), (.ofNat 10)), (36, (.negSucc 2147483647), (.ofNat 2147483647)), (37, (.ofNat 0), (.ofNat 1)), (38, (.ofNat 0), (.ofNat 1)), (39, (.ofNat 0), (.ofNat 1)), (40, (.ofNat 0), (.ofNat 1))], [((.ofNat 1), [(19, (.negSucc 0)), (20, (.negSucc 0)), (21, (.negSucc 0)), (22, (.negSucc 0))]), ((.ofNat 1), [(37, (.negSucc 0)), (38, (.negSucc 0)), (39, (.negSucc 0)), (40, (.negSucc 0))])], [.inr (.inl (some 0))], [zc635,
    zc636,
    zc56,
    zc637,
    zc97,
    zc59,
    zc60,
    .inr (1, .inr (.inl 70)),
    .inr (1, .inr (.inl 8)),
    zc808,
    zc70,
    zc71,
    zc72,
    zc73,
    .inr (1, .inr (.inl 4))], [(1, [10], []), (2, [10], []), (1, [9], []), (2, [9], []), (1, [1], []), (2, [1], [])]),
  [((45, [], [], [], [zc635,
    zc808,
    zc56,
    zc637,
    zc97,
    zc59,
    zc60,
    .inr (1, .inr (.inl 70)),
    .inr (1, .inr (.inl 8)),
    zc808,
    zc70,
    zc71,
    zc72,
    zc73,
    .inr (1, .inr (.inl 4))], [(1, [1], []), (2, [1], []), (1, [10], []), (2, [10], []), (1, [9], []), (2, [9], [])]), 0, 0)])
noncomputable def c211_0_e : List Ct := []
noncomputable def c211_0_pts : List PE := []
set_option maxRecDepth 100000 in
theorem c211_0_k : enCtF c211_0 c211_0_e (c211_0_pts ++ []) (none) (noF, (mCopy 2 1 12 0 12 27), 0, 4, 45) 3000 = true := by decide +kernel
set_option maxRecDepth 100000 in
theorem c211_0_v : ValidC PPk c211_0 := ct_ok fpk ⟨noF_ok, (mCopy_ok 2 1 12 0 12 27)⟩ (d := 0) (ext := []) (pts := c211_0_pts) (env := c211_0_e) rfl (fun _ h => (by cases h)) ext_nil (fun q h => (by cases h)) (enF c211_0_k) (fun _ h => (by cases h))

def zc809 : AC := .inr (0, .inl [.inl ((.ofNat 0), [(26, (.ofNat 1))]), .inl ((.ofNat 0), [(27, (.ofNat 1))]), .inl ((.ofNat 0), [(28, (.ofNat 1))]), .inl ((.ofNat 0), [(29, (.ofNat 1))]), .inl ((.ofNat 0), [(30, (.ofNat 1))]), .inl ((.ofNat 0), [(31, (.ofNat 1))]), .inl ((.ofNat 0), [(32, (.ofNat 1))]), .inl ((.ofNat 0), [(33, (.ofNat 1))]), .inr (5, (.negSucc 2147483647), (.ofNat 2147483647)), .inr (1, (.ofNat 0), (.ofNat 3)), .inl ((.ofNat 0), [(34, (.ofNat 1))]), .inr (2, (.negSucc 2147483647), (.ofNat 2147483647)), .inr (1, (.ofNat 1), (.ofNat 1000)), .inr (1, (.ofNat 0), (.ofNat 50)), .inr (23, (.negSucc 2147483647), (.ofNat 2147483647)), .inl ((.ofNat 0), [(35, (.ofNat 1))]), .inr (39, (.negSucc 2147483647), (.ofNat 2147483647)), .inl ((.ofNat 0), [(36, (.ofNat 1))]), .inr (39, (.negSucc 2147483647), (.ofNat 2147483647)), .inl ((.ofNat 0), [(37, (.ofNat 1))]), .inr (39, (.negSucc 2147483647), (.ofNat 2147483647)), .inl ((.ofNat 0), [(38, (.ofNat 1))]), .inr (517, (.negSucc 2147483647), (.ofNat 2147483647)), .inr (12, (.ofNat 0), (.ofNat 60)), .inr (1, (.ofNat 0), (.ofNat 5)), .inr (1, (.ofNat 0), (.ofNat 39)), .inr (1, (.ofNat 0), (.ofNat 40)), .inr (1, (.ofNat 0), (.ofNat 5)), .inr (1, (.ofNat 0), (.ofNat 39)), .inr (1, (.ofNat 0), (.ofNat 40)), .inr (1, (.ofNat 0), (.ofNat 5)), .inr (1, (.ofNat 0), (.ofNat 39)), .inr (1, (.ofNat 0), (.ofNat 40)), .inr (1, (.ofNat 0), (.ofNat 5)), .inr (1, (.ofNat 0), (.ofNat 39)), .inr (1, (.ofNat 0), (.ofNat 40)), .inr (1, (.ofNat 0), (.ofNat 5)), .inr (1, (.ofNat 0), (.ofNat 39)), .inr (1, (.ofNat 0), (.ofNat 40)), .inr (1, (.ofNat 0), (.ofNat 5)), .inr (1, (.ofNat 0), (.ofNat 39)), .inr (1, (.ofNat 0), (.ofNat 40)), .inr (1, (.ofNat 0), (.ofNat 5)), .inr (1, (.ofNat 0), (.ofNat 39)), .inr (1, (.ofNat 0), (.ofNat 40)), .inr (1, (.ofNat 0), (.ofNat 5)), .inr (1, (.ofNat 0), (.ofNat 39)), .inr (1, (.ofNat 0), (.ofNat 40)), .inr (76, (.negSucc 2147483647), (.ofNat 2147483647)), .inr (2, (.negSucc 2147483647), (.ofNat 2147483647)), .inr (1, (.ofNat 0), (.ofNat 5)), .inr (2, (.negSucc 2147483647), (.ofNat 2147483647)), .inr (2, (.negSucc 2147483647), (.ofNat 2147483647)), .inr (1, (.ofNat 0), (.ofNat 5)), .inr (2, (.negSucc 2147483647), (.ofNat 2147483647)), .inr (2, (.negSucc 2147483647), (.ofNat 2147483647)), .inr (1, (.ofNat 0), (.ofNat 5)), .inr (2, (.negSucc 2147483647), (.ofNat 2147483647)), .inr (2, (.negSucc 2147483647), (.ofNat 2147483647)), .inr (1, (.ofNat 0), (.ofNat 5)), .inr (2, (.negSucc 2147483647), (.ofNat 2147483647)), .inr (2, (.negSucc 2147483647), (.ofNat 2147483647)), .inr (1, (.ofNat 0), (.ofNat 5)), .inr (2, (.negSucc 2147483647), (.ofNat 2147483647)), .inr (2, (.negSucc 2147483647), (.ofNat 2147483647)), .inr (1, (.ofNat 0), (.ofNat 5)), .inr (2, (.negSucc 2147483647), (.ofNat 2147483647)), .inr (2, (.negSucc 2147483647), (.ofNat 2147483647)), .inr (1, (.ofNat 0), (.ofNat 5)), .inr (2, (.negSucc 2147483647), (.ofNat 2147483647)), .inr (2, (.negSucc 2147483647), (.ofNat 2147483647)), .inr (1, (.ofNat 0), (.ofNat 5)), .inr (2, (.negSucc 2147483647), (.ofNat 2147483647)), .inr (60, (.ofNat 0), (.ofNat 127)), .inr (18, (.negSucc 2147483647), (.ofNat 2147483647))])
noncomputable def c210_0 : Ct := (210, 7, (40, [(0, (.ofNat 1), (.ofNat 20)), (1, (.ofNat 0), (.ofNat 69)), (2, (.ofNat 0), (.ofNat 69)), (3, (.ofNat 0), (.ofNat 8)), (4, (.negSucc 2147483647), (.ofNat 2147483647)), (5, (.negSucc 2147483647), (.ofNat 2147483647)), (6, (.negSucc 2147483647), (.ofNat 2147483647)), (7, (.negSucc 2147483647), (.ofNat 2147483647)), (8, (.negSucc 2147483647), (.ofNat 2147483647)), (9, (.negSucc 2147483647), (.ofNat 2147483647)), (10, (.negSucc 2147483647), (.ofNat 2147483647)), (11, (.ofNat 1), (.ofNat 4)), (12, (.ofNat 0), (.ofNat 60)), (13, (.ofNat 0), (.ofNat 8)), (14, (.ofNat 0), (.ofNat 6)), (15, (.ofNat 0), (.ofNat 8)), (16, (.ofNat 0), (.ofNat 60)), (17, (.ofNat 0), (.ofNat 60)), (18, (.ofNat 0), (.ofNat 10)), (19, (.negSucc 2147483647), (.ofNat 2147483647)), (20, (.ofNat 0), (.ofNat 1)), (21, (.ofNat 0), (.ofNat 1)), (22, (.ofNat 0), (.ofNat 1)), (23, (.ofNat 0), (.ofNat 1)), (26, (.ofNat 1), (.ofNat 4)), (27, (.ofNat 0), (.ofNat 60)), (28, (.ofNat 0), (.ofNat 8)), (29, (.ofNat 0), (.ofNat 6)), (30, (.ofNat 0), (.ofNat 8)), (31, (.ofNat 0), (.ofNat 60)), (32, (.ofNat 0), (.ofNat 60)), (33, (.ofNat 0), (.ofNat 10)), (34, (.negSucc 2147483647), (.ofNat 2147483647)), (35, (.ofNat 0), (.ofNat 1)), (36, (.ofNat 0), (.ofNat 1)), (37, (.ofNat 0), (.ofNat 1)), (38, (.ofNat 0), (.ofNat 1))], [((.ofNat 1), [(20, (.negSucc 0)), (21, (.negSucc 0)), (22, (.negSucc 0)), (23, (.negSucc 0))]), ((.ofNat 1), [(35, (.negSucc 0)), (36, (.negSucc 0)), (37, (.negSucc 0)), (38, (.negSucc 0))])], [.inr (.inl (some 0)), .inl (false, ((.ofNat 0), [(0, (.ofNat 1))]))], [zc620,
    zc621,
    zc57,
    zc622,
    zc642,
    zc642,
    zc642,
    .inr (1, .inr (.inl 70)),
    .inr (1, .inr (.inl 8)),
    zc809,
    zc807,
    zc428,
    zc428,
    zc68,
    .inr (1, .inr (.inl 4))], [(1, [9], []), (2, [9], []), (1, [1], []), (2, [1], [])]),
  [((51, [(40, (.ofNat 0), (.ofNat 69)), (41, (.ofNat 0), (.ofNat 69)), (42, (.ofNat 0), (.ofNat 8)), (43, (.negSucc 2147483647), (.ofNat 2147483647)), (44, (.ofNat 0), (.ofNat 60)), (45, (.ofNat 0), (.ofNat 60)), (46, (.negSucc 2147483647), (.ofNat 2147483647)), (47, (.ofNat 0), (.ofNat 1)), (48, (.ofNat 0), (.ofNat 1)), (49, (.ofNat 0), (.ofNat 1)), (50, (.ofNat 0), (.ofNat 1))], [((.ofNat 1), [(47, (.negSucc 0)), (48, (.negSucc 0)), (49, (.negSucc 0)), (50, (.negSucc 0))])], [], [.inl (12, [.inr (.inl (some 1)), .inr (.inl (some 2)), .inr (.inl (some 3)), .inl (false, ((.ofNat 0), [(41, (.ofNat 1))])), .inr (.inl (some 4)), .inr (.inl (some 5)), .inl (false, ((.ofNat 0), [(40, (.ofNat 1))])), .inr (.inl (some 6)), .inr (.inl (some 7)), .inl (false, ((.ofNat 0), [(42, (.ofNat 1))])), .inr (.inl (some 8)), .inl (false, ((.ofNat 0), [(43, (.ofNat 1))])), .inr (.inl (some 9)), .inr (.inl (some 10)), .inr (.inl (some 11)), .inr (.inl (some 12)), .inl (false, ((.ofNat 0), [(5, (.ofNat 1))])), .inl (false, ((.ofNat 0), [(6, (.ofNat 1))])), .inl (false, ((.ofNat 0), [(7, (.ofNat 1))])), .inr (.inl (some 13)), .inl (false, ((.ofNat 0), [(8, (.ofNat 1))])), .inl (false, ((.ofNat 0), [(9, (.ofNat 1))])), .inl (false, ((.ofNat 0), [(10, (.ofNat 1))])), .inr (.inl (some 14))]),
    zc809,
    zc57,
    zc622,
    zc642,
    zc642,
    zc642,
    .inr (1, .inr (.inl 70)),
    .inr (1, .inr (.inl 8)),
    zc809,
    .inr (0, .inl [.inl ((.ofNat 0), [(11, (.ofNat 1))]), .inl ((.ofNat 0), [(44, (.ofNat 1))]), .inl ((.ofNat 0), [(13, (.ofNat 1))]), .inl ((.ofNat 0), [(14, (.ofNat 1))]), .inl ((.ofNat 0), [(15, (.ofNat 1))]), .inl ((.ofNat 0), [(16, (.ofNat 1))]), .inl ((.ofNat 0), [(45, (.ofNat 1))]), .inl ((.ofNat 0), [(18, (.ofNat 1))]), .inr (5, (.negSucc 2147483647), (.ofNat 2147483647)), .inr (1, (.ofNat 0), (.ofNat 3)), .inl ((.ofNat 0), [(46, (.ofNat 1))]), .inr (2, (.negSucc 2147483647), (.ofNat 2147483647)), .inr (1, (.ofNat 1), (.ofNat 1000)), .inr (1, (.ofNat 0), (.ofNat 50)), .inr (23, (.negSucc 2147483647), (.ofNat 2147483647)), .inl ((.ofNat 0), [(47, (.ofNat 1))]), .inr (39, (.negSucc 2147483647), (.ofNat 2147483647)), .inl ((.ofNat 0), [(48, (.ofNat 1))]), .inr (39, (.negSucc 2147483647), (.ofNat 2147483647)), .inl ((.ofNat 0), [(49, (.ofNat 1))]), .inr (39, (.negSucc 2147483647), (.ofNat 2147483647)), .inl ((.ofNat 0), [(50, (.ofNat 1))]), .inr (517, (.negSucc 2147483647), (.ofNat 2147483647)), .inr (12, (.ofNat 0), (.ofNat 60)), .inr (1, (.ofNat 0), (.ofNat 5)), .inr (1, (.ofNat 0), (.ofNat 39)), .inr (1, (.ofNat 0), (.ofNat 40)), .inr (1, (.ofNat 0), (.ofNat 5)), .inr (1, (.ofNat 0), (.ofNat 39)), .inr (1, (.ofNat 0), (.ofNat 40)), .inr (1, (.ofNat 0), (.ofNat 5)), .inr (1, (.ofNat 0), (.ofNat 39)), .inr (1, (.ofNat 0), (.ofNat 40)), .inr (1, (.ofNat 0), (.ofNat 5)), .inr (1, (.ofNat 0), (.ofNat 39)), .inr (1, (.ofNat 0), (.ofNat 40)), .inr (1, (.ofNat 0), (.ofNat 5)), .inr (1, (.ofNat 0), (.ofNat 39)), .inr (1, (.ofNat 0), (.ofNat 40)), .inr (1, (.ofNat 0), (.ofNat 5)), .inr (1, (.ofNat 0), (.ofNat 39)), .inr (1, (.ofNat 0), (.ofNat 40)), .inr (1, (.ofNat 0), (.ofNat 5)), .inr (1, (.ofNat 0), (.ofNat 39)), .inr (1, (.ofNat 0), (.ofNat 40)), .inr (1, (.ofNat 0), (.ofNat 5)), .inr (1, (.ofNat 0), (.ofNat 39)), .inr (1, (.ofNat 0), (.ofNat 40)), .inr (78, (.negSucc 2147483647), (.ofNat 2147483647)), .inr (1, (.ofNat 0), (.ofNat 5)), .inr (4, (.negSucc 2147483647), (.ofNat 2147483647)), .inr (1, (.ofNat 0), (.ofNat 5)), .inr (4, (.negSucc 2147483647), (.ofNat 2147483647)), .inr (1, (.ofNat 0), (.ofNat 5)), .inr (4, (.negSucc 2147483647), (.ofNat 2147483647)), .inr (1, (.ofNat 0), (.ofNat 5)), .inr (4, (.negSucc 2147483647), (.ofNat 2147483647)), .inr (1, (.ofNat 0), (.ofNat 5)), .inr (4, (.negSucc 2147483647), (.ofNat 2147483647)), .inr (1, (.ofNat 0), (.ofNat 5)), .inr (4, (.negSucc 2147483647), (.ofNat 2147483647)), .inr (1, (.ofNat 0), (.ofNat 5)), .inr (4, (.negSucc 2147483647), (.ofNat 2147483647)), .inr (1, (.ofNat 0), (.ofNat 5)), .inr (2, (.negSucc 2147483647), (.ofNat 2147483647)), .inr (60, (.ofNat 0), (.ofNat 127)), .inr (18, (.negSucc 2147483647), (.ofNat 2147483647))]),
    zc428,
    zc428,
    zc68,
    .inr (1, .inr (.inl 4))], [(1, [10], []), (2, [10], []), (1, [1], []), (2, [1], []), (1, [9], []), (2, [9], [])]), 0, 0)])
noncomputable def c210_0_e : List Ct := [c170_0, c211_0]
noncomputable def c210_0_p0 : PE := (2, [0, 1, 2], (52, [(0, (.ofNat 1), (.ofNat 20)), (1, (.ofNat 0), (.ofNat 69)), (2, (.ofNat 0), (.ofNat 69)), (3, (.ofNat 0), (.ofNat 8)), (4, (.negSucc 2147483647), (.ofNat 2147483647)), (5, (.negSucc 2147483647), (.ofNat 2147483647)), (6, (.negSucc 2147483647), (.ofNat 2147483647)), (7, (.negSucc 2147483647), (.ofNat 2147483647)), (8, (.negSucc 2147483647), (.ofNat 2147483647)), (9, (.negSucc 2147483647), (.ofNat 2147483647)), (10, (.negSucc 2147483647), (.ofNat 2147483647)), (11, (.ofNat 1), (.ofNat 4)), (12, (.ofNat 0), (.ofNat 60)), (13, (.ofNat 0), (.ofNat 8)), (14, (.ofNat 0), (.ofNat 6)), (15, (.ofNat 0), (.ofNat 8)), (16, (.ofNat 0), (.ofNat 60)), (17, (.ofNat 0), (.ofNat 60)), (18, (.ofNat 0), (.ofNat 10)), (19, (.negSucc 2147483647), (.ofNat 2147483647)), (20, (.ofNat 0), (.ofNat 1)), (21, (.ofNat 0), (.ofNat 1)), (22, (.ofNat 0), (.ofNat 1)), (23, (.ofNat 0), (.ofNat 1)), (26, (.ofNat 1), (.ofNat 4)), (27, (.ofNat 0), (.ofNat 60)), (28, (.ofNat 0), (.ofNat 8)), (29, (.ofNat 0), (.ofNat 6)), (30, (.ofNat 0), (.ofNat 8)), (31, (.ofNat 0), (.ofNat 60)), (32, (.ofNat 0), (.ofNat 60)), (33, (.ofNat 0), (.ofNat 10)), (34, (.negSucc 2147483647), (.ofNat 2147483647)), (35, (.ofNat 0), (.ofNat 1)), (36, (.ofNat 0), (.ofNat 1)), (37, (.ofNat 0), (.ofNat 1)), (38, (.ofNat 0), (.ofNat 1)), (40, (.ofNat 0), (.ofNat 20)), (41, (.ofNat 0), (.ofNat 69)), (42, (.ofNat 0), (.ofNat 69)), (43, (.ofNat 0), (.ofNat 8)), (44, (.negSucc 2147483647), (.ofNat 2147483647)), (45, (.ofNat 0), (.ofNat 60)), (46, (.ofNat 0), (.ofNat 60)), (47, (.negSucc 2147483647), (.ofNat 2147483647)), (48, (.ofNat 0), (.ofNat 1)), (49, (.ofNat 0), (.ofNat 1)), (50, (.ofNat 0), (.ofNat 1)), (51, (.ofNat 0), (.ofNat 1))], [((.ofNat 1), [(20, (.negSucc 0)), (21, (.negSucc 0)), (22, (.negSucc 0)), (23, (.negSucc 0))]), ((.ofNat 1), [(35, (.negSucc 0)), (36, (.negSucc 0)), (37, (.negSucc 0)), (38, (.negSucc 0))]), ((.ofNat 1), [(48, (.negSucc 0)), (49, (.negSucc 0)), (50, (.negSucc 0)), (51, (.negSucc 0))])], [.inr (.inl (some 0)), .inl (false, ((.ofNat 0), [(0, (.ofNat 1))])), .inl (false, ((.ofNat 0), [(40, (.ofNat 1))]))], [.inl (12, [.inr (.inl (some 1)), .inr (.inl (some 2)), .inr (.inl (some 3)), .inl (false, ((.ofNat 0), [(42, (.ofNat 1))])), .inr (.inl (some 4)), .inr (.inl (some 5)), .inl (false, ((.ofNat 0), [(41, (.ofNat 1))])), .inr (.inl (some 6)), .inr (.inl (some 7)), .inl (false, ((.ofNat 0), [(43, (.ofNat 1))])), .inr (.inl (some 8)), .inl (false, ((.ofNat 0), [(44, (.ofNat 1))])), .inr (.inl (some 9)), .inr (.inl (some 10)), .inr (.inl (some 11)), .inr (.inl (some 12)), .inl (false, ((.ofNat 0), [(5, (.ofNat 1))])), .inl (false, ((.ofNat 0), [(6, (.ofNat 1))])), .inl (false, ((.ofNat 0), [(7, (.ofNat 1))])), .inr (.inl (some 13)), .inl (false, ((.ofNat 0), [(8, (.ofNat 1))])), .inl (false, ((.ofNat 0), [(9, (.ofNat 1))])), .inl (false, ((.ofNat 0), [(10, (.ofNat 1))])), .inr (.inl (some 14))]),
    .inr (0, .inl [.inl ((.ofNat 0), [(11, (.ofNat 1))]), .inl ((.ofNat 0), [(45, (.ofNat 1))]), .inl ((.ofNat 0), [(13, (.ofNat 1))]), .inl ((.ofNat 0), [(14, (.ofNat 1))]), .inl ((.ofNat 0), [(15, (.ofNat 1))]), .inl ((.ofNat 0), [(16, (.ofNat 1))]), .inl ((.ofNat 0), [(46, (.ofNat 1))]), .inl ((.ofNat 0), [(18, (.ofNat 1))]), .inr (5, (.negSucc 2147483647), (.ofNat 2147483647)), .inr (1, (.ofNat 0), (.ofNat 3)), .inl ((.ofNat 0), [(47, (.ofNat 1))]), .inr (2, (.negSucc 2147483647), (.ofNat 2147483647)), .inr (1, (.ofNat 1), (.ofNat 1000)), .inr (1, (.ofNat 0), (.ofNat 50)), .inr (23, (.negSucc 2147483647), (.ofNat 2147483647)), .inl ((.ofNat 0), [(48, (.ofNat 1))]), .inr (39, (.negSucc 2147483647), (.ofNat 2147483647)), .inl ((.ofNat 0), [(49, (.ofNat 1))]), .inr (39, (.negSucc 2147483647), (.ofNat 2147483647)), .inl ((.ofNat 0), [(50, (.ofNat 1))]), .inr (39, (.negSucc 2147483647), (.ofNat 2147483647)), .inl ((.ofNat 0), [(51, (.ofNat 1))]), .inr (517, (.negSucc 2147483647), (.ofNat 2147483647)), .inr (12, (.ofNat 0), (.ofNat 60)), .inr (1, (.ofNat 0), (.ofNat 5)), .inr (1, (.ofNat 0), (.ofNat 39)), .inr (1, (.ofNat 0), (.ofNat 40)), .inr (1, (.ofNat 0), (.ofNat 5)), .inr (1, (.ofNat 0), (.ofNat 39)), .inr (1, (.ofNat 0), (.ofNat 40)), .inr (1, (.ofNat 0), (.ofNat 5)), .inr (1, (.ofNat 0), (.ofNat 39)), .inr (1, (.ofNat 0), (.ofNat 40)), .inr (1, (.ofNat 0), (.ofNat 5)), .inr (1, (.ofNat 0), (.ofNat 39)), .inr (1, (.ofNat 0), (.ofNat 40)), .inr (1, (.ofNat 0), (.ofNat 5)), .inr (1, (.ofNat 0), (.ofNat 39)), .inr (1, (.ofNat 0), (.ofNat 40)), .inr (1, (.ofNat 0), (.ofNat 5)), .inr (1, (.ofNat 0), (.ofNat 39)), .inr (1, (.ofNat 0), (.ofNat 40)), .inr (1, (.ofNat 0), (.ofNat 5)), .inr (1, (.ofNat 0), (.ofNat 39)), .inr (1, (.ofNat 0), (.ofNat 40)), .inr (1, (.ofNat 0), (.ofNat 5)), .inr (1, (.ofNat 0), (.ofNat 39)), .inr (1, (.ofNat 0), (.ofNat 40)), .inr (78, (.negSucc 2147483647), (.ofNat 2147483647)), .inr (1, (.ofNat 0), (.ofNat 5)), .inr (4, (.negSucc 2147483647), (.ofNat 2147483647)), .inr (1, (.ofNat 0), (.ofNat 5)), .inr (4, (.negSucc 2147483647), (.ofNat 2147483647)), .inr (1, (.ofNat 0), (.ofNat 5)), .inr (4, (.negSucc 2147483647), (.ofNat 2147483647)), .inr (1, (.ofNat 0), (.ofNat 5)), .inr (4, (.negSucc 2147483647), (.ofNat 2147483647)), .inr (1, (.ofNat 0), (.ofNat 5)), .inr (4, (.negSucc 2147483647), (.ofNat 2147483647)), .inr (1, (.ofNat 0), (.ofNat 5)), .inr (4, (.negSucc 2147483647), (.ofNat 2147483647)), .inr (1, (.ofNat 0), (.ofNat 5)), .inr (4, (.negSucc 2147483647), (.ofNat 2147483647)), .inr (1, (.ofNat 0), (.ofNat 5)), .inr (2, (.negSucc 2147483647), (.ofNat 2147483647)), .inr (60, (.ofNat 0), (.ofNat 127)), .inr (18, (.negSucc 2147483647), (.ofNat 2147483647))]),
    zc57,
    zc622,
    zc642,
    zc642,
    zc642,
    .inr (1, .inr (.inl 70)),
    .inr (1, .inr (.inl 8)),
    zc809,
    zc807,
    zc428,
    zc428,
    zc68,
    .inr (1, .inr (.inl 4))], [(1, [9], []), (2, [9], []), (1, [1], []), (2, [1], [])]), symsL 40 0, some ((.ofNat 41), [(40, (.negSucc 0))]), 0, 0)
noncomputable def c210_0_pts : List PE := [c210_0_p0]
set_option maxRecDepth 100000 in
theorem c210_0_k : enCtF c210_0 c210_0_e (c210_0_pts ++ []) (none) (noF, (mCopy 42 2 12 13 0 67), 4, 4398046511104, 40) 3000 = true := by decide +kernel
set_option maxRecDepth 100000 in
theorem c210_0_k0 : ptCtF c210_0 c210_0_e (c210_0_pts ++ []) (noF, (mCopy 42 2 12 13 0 67), 4, 4398046511104, 40) 3000 c210_0_p0 = true := by decide +kernel
set_option maxRecDepth 100000 in
theorem c210_0_v : ValidC PPk c210_0 := ct_ok fpk ⟨noF_ok, (mCopy_ok 42 2 12 13 0 67)⟩ (d := 6) (ext := []) (pts := c210_0_pts) (env := c210_0_e) rfl (List.forall_mem_cons.mpr ⟨⟨c170_0_v, Nat.le_of_ble_eq_true rfl⟩, List.forall_mem_cons.mpr ⟨⟨c211_0_v, Nat.le_of_ble_eq_true rfl⟩, fun _ h => (by cases h)⟩⟩) ext_nil (fun q h => (by cases h)) (enF c210_0_k) (List.forall_mem_cons.mpr ⟨ptF c210_0_k0, fun _ h => (by cases h)⟩)

noncomputable def c213_0 : Ct := (213, 2, (32, [(0, (.ofNat 0), (.ofNat 69)), (1, (.ofNat 0), (.ofNat 69)), (2, (.ofNat 0), (.ofNat 8)), (3, (.negSucc 2147483647), (.ofNat 2147483647)), (4, (.negSucc 2147483647), (.ofNat 2147483647)), (5, (.negSucc 2147483647), (.ofNat 2147483647)), (6, (.negSucc 2147483647), (.ofNat 2147483647)), (7, (.negSucc 2147483647), (.ofNat 2147483647)), (8, (.negSucc 2147483647), (.ofNat 2147483647)), (9, (.negSucc 2147483647), (.ofNat 2147483647)), (10, (.ofNat 1), (.ofNat 4)), (11, (.ofNat 0), (.ofNat 60)), (12, (.ofNat 0), (.ofNat 8)), (13, (.ofNat 0), (.ofNat 6)), (14, (.ofNat 0), (.ofNat 8)), (15, (.ofNat 0), (.ofNat 60)), (16, (.ofNat 0), (.ofNat 60)), (17, (.ofNat 0), (.ofNat 10)), (18, (.negSucc 2147483647), (.ofNat 2147483647)), (19, (.ofNat 0), (.ofNat 1)), (20, (.ofNat 0), (.ofNat 1)), (21, (.ofNat 0), (.ofNat 1)), (22, (.ofNat 0), (.ofNat 1))], [((.ofNat 1), [(19, (.negSucc 0)), (20, (.negSucc 0)), (21, (.negSucc 0)), (22, (.negSucc 0))])], [.inr (.inl (some 0))], [zc635,
    zc636,
    zc56,
    zc637,
    zc97,
    zc59,
    zc60,
    .inr (1, .inr (.inl 70)),
    .inr (1, .inr (.inl 8)),
    zc61,
    zc807,
    zc62,
    zc63,
    zc30,
    .inr (1, .inr (.inl 4))], [(1, [10], []), (2, [10], []), (1, [9], []), (2, [9], []), (1, [1], []), (2, [1], [])]),
  [((33, [(32, (.ofNat 0), (.ofNat 1))], [], [.inl (false, ((.ofNat 0), [(32, (.ofNat 1))]))], [zc635,
    zc636,
    zc56,
    zc637,
    zc97,
    zc59,
    zc60,
    .inr (1, .inr (.inl 70)),
    .inr (1, .inr (.inl 8)),
    zc61,
    zc807,
    zc62,
    zc63,
    zc30,
    .inr (1, .inr (.inl 4))], [(1, [10], []), (2, [10], []), (1, [9], []), (2, [9], []), (1, [1], []), (2, [1], [])]), 0, 0)])
noncomputable def c213_0_e : List Ct := [c175_11, c175_12]
noncomputable def c213_0_p0 : PE := (2, [0, 1], (32, [(0, (.ofNat 0), (.ofNat 69)), (1, (.ofNat 0), (.ofNat 69)), (2, (.ofNat 0), (.ofNat 8)), (3, (.negSucc 2147483647), (.ofNat 2147483647)), (4, (.negSucc 2147483647), (.ofNat 2147483647)), (5, (.negSucc 2147483647), (.ofNat 2147483647)), (6, (.negSucc 2147483647), (.ofNat 2147483647)), (7, (.negSucc 2147483647), (.ofNat 2147483647)), (8, (.negSucc 2147483647), (.ofNat 2147483647)), (9, (.negSucc 2147483647), (.ofNat 2147483647)), (10, (.ofNat 1), (.ofNat 4)), (11, (.ofNat 0), (.ofNat 60)), (12, (.ofNat 0), (.ofNat 8)), (13, (.ofNat 0), (.ofNat 6)), (14, (.ofNat 0), (.ofNat 8)), (15, (.ofNat 0), (.ofNat 60)), (16, (.ofNat 0), (.ofNat 60)), (17, (.ofNat 0), (.ofNat 10)), (18, (.negSucc 2147483647), (.ofNat 2147483647)), (19, (.ofNat 0), (.ofNat 1)), (20, (.ofNat 0), (.ofNat 1)), (21, (.ofNat 0), (.ofNat 1)), (22, (.ofNat 0), (.ofNat 1))], [((.ofNat 1), [(19, (.negSucc 0)), (20, (.negSucc 0)), (21, (.negSucc 0)), (22, (.negSucc 0))])], [.inr (.inl (some 0)), .inl (false, ((.ofNat 0), []))], [zc635,
    zc636,
    zc56,
    zc637,
    zc97,
    zc59,
    zc60,
    .inr (1, .inr (.inl 70)),
    .inr (1, .inr (.inl 8)),
    zc61,
    zc807,
    zc62,
    zc63,
    zc30,
    .inr (1, .inr (.inl 4))], [(1, [10], []), (2, [10], []), (1, [9], []), (2, [9], []), (1, [1], []), (2, [1], [])]), symsL 32 0, some ((.ofNat 944), []), 0, 0)
noncomputable def c213_0_p1 : PE := (2, [0, 1, 2], (33, [(0, (.ofNat 0), (.ofNat 69)), (1, (.ofNat 0), (.ofNat 69)), (2, (.ofNat 0), (.ofNat 8)), (3, (.negSucc 2147483647), (.ofNat 2147483647)), (4, (.negSucc 2147483647), (.ofNat 2147483647)), (5, (.negSucc 2147483647), (.ofNat 2147483647)), (6, (.negSucc 2147483647), (.ofNat 2147483647)), (7, (.negSucc 2147483647), (.ofNat 2147483647)), (8, (.negSucc 2147483647), (.ofNat 2147483647)), (9, (.negSucc 2147483647), (.ofNat 2147483647)), (10, (.ofNat 1), (.ofNat 4)), (11, (.ofNat 0), (.ofNat 60)), (12, (.ofNat 0), (.ofNat 8)), (13, (.ofNat 0), (.ofNat 6)), (14, (.ofNat 0), (.ofNat 8)), (15, (.ofNat 0), (.ofNat 60)), (16, (.ofNat 0), (.ofNat 60)), (17, (.ofNat 0), (.ofNat 10)), (18, (.negSucc 2147483647), (.ofNat 2147483647)), (19, (.ofNat 0), (.ofNat 1)), (20, (.ofNat 0), (.ofNat 1)), (21, (.ofNat 0), (.ofNat 1)), (22, (.ofNat 0), (.ofNat 1)), (32, (.ofNat 1), (.ofNat 4))], [((.ofNat 1), [(19, (.negSucc 0)), (20, (.negSucc 0)), (21, (.negSucc 0)), (22, (.negSucc 0))])], [.inr (.inl (some 0)), .inl (false, ((.ofNat 0), [(32, (.ofNat 1))])), .inl (false, ((.ofNat 15), []))], [zc635,
    zc636,
    zc56,
    zc637,
    zc97,
    zc59,
    zc60,
    .inr (1, .inr (.inl 70)),
    .inr (1, .inr (.inl 8)),
    zc61,
    zc807,
    zc62,
    zc63,
    zc30,
    .inr (1, .inr (.inl 4))], [(1, [10], []), (2, [10], []), (1, [9], []), (2, [9], []), (1, [1], []), (2, [1], [])]), symsL 32 0, some ((.ofNat 944), [(32, (.negSucc 63))]), 0, 0)
noncomputable def c213_0_p2 : PE := (14, [0, 1, 2], (34, [(0, (.ofNat 0), (.ofNat 69)), (1, (.ofNat 0), (.ofNat 69)), (2, (.ofNat 0), (.ofNat 8)), (3, (.negSucc 2147483647), (.ofNat 2147483647)), (4, (.negSucc 2147483647), (.ofNat 2147483647)), (5, (.negSucc 2147483647), (.ofNat 2147483647)), (6, (.negSucc 2147483647), (.ofNat 2147483647)), (7, (.negSucc 2147483647), (.ofNat 2147483647)), (8, (.negSucc 2147483647), (.ofNat 2147483647)), (9, (.negSucc 2147483647), (.ofNat 2147483647)), (10, (.ofNat 1), (.ofNat 4)), (11, (.ofNat 0), (.ofNat 60)), (12, (.ofNat 0), (.ofNat 8)), (13, (.ofNat 0), (.ofNat 6)), (14, (.ofNat 0), (.ofNat 8)), (15, (.ofNat 0), (.ofNat 60)), (16, (.ofNat 0), (.ofNat 60)), (17, (.ofNat 0), (.ofNat 10)), (18, (.negSucc 2147483647), (.ofNat 2147483647)), (19, (.ofNat 0), (.ofNat 1)), (20, (.ofNat 0), (.ofNat 1)), (21, (.ofNat 0), (.ofNat 1)), (22, (.ofNat 0), (.ofNat 1)), (32, (.ofNat 0), (.ofNat 3)), (33, (.ofNat 0), (.ofNat 15))], [((.ofNat 1), [(19, (.negSucc 0)), (20, (.negSucc 0)), (21, (.negSucc 0)), (22, (.negSucc 0))])], [.inr (.inl (some 0)), .inl (false, ((.ofNat 0), [(32, (.ofNat 1))])), .inl (false, ((.ofNat 0), [(33, (.ofNat 1))]))], [zc635,
    zc636,
    zc56,
    zc637,
    zc97,
    zc59,
    zc60,
    .inr (1, .inr (.inl 70)),
    .inr (1, .inr (.inl 8)),
    zc61,
    zc807,
    zc62,
    zc63,
    zc30,
    .inr (1, .inr (.inl 4))], [(1, [10], []), (2, [10], []), (1, [9], []), (2, [9], []), (1, [1], []), (2, [1], [])]), symsL 32 0, some ((.ofNat 927), [(32, (.negSucc 63)), (33, (.negSucc 0))]), 0, 0)
noncomputable def c213_0_pts : List PE := [c213_0_p0, c213_0_p1, c213_0_p2]
set_option maxRecDepth 100000 in
theorem c213_0_k : enCtF c213_0 c213_0_e (c213_0_pts ++ []) (none) (noF, noM, 16388, 0, 32) 3000 = true := by decide +kernel
set_option maxRecDepth 100000 in
theorem c213_0_k0 : ptCtF c213_0 c213_0_e (c213_0_pts ++ []) (noF, noM, 16388, 0, 32) 3000 c213_0_p0 = true := by decide +kernel
set_option maxRecDepth 100000 in
theorem c213_0_k1 : ptCtF c213_0 c213_0_e (c213_0_pts ++ []) (noF, noM, 16388, 0, 32) 3000 c213_0_p1 = true := by decide +kernel
set_option maxRecDepth 100000 in
theorem c213_0_k2 : ptCtF c213_0 c213_0_e (c213_0_pts ++ []) (noF, noM, 16388, 0, 32) 3000 c213_0_p2 = true := by decide +kernel
set_option maxRecDepth 100000 in
theorem c213_0_v : ValidC PPk c213_0 := ct_ok fpk ⟨noF_ok, noM_ok⟩ (d := 1) (ext := []) (pts := c213_0_pts) (env := c213_0_e) rfl (List.forall_mem_cons.mpr ⟨⟨c175_11_v, Nat.le_of_ble_eq_true rfl⟩, List.forall_mem_cons.mpr ⟨⟨c175_12_v, Nat.le_of_ble_eq_true rfl⟩, fun _ h => (by cases h)⟩⟩) ext_nil (fun q h => (by cases h)) (enF c213_0_k) (List.forall_mem_cons.mpr ⟨ptF c213_0_k0, List.forall_mem_cons.mpr ⟨ptF c213_0_k1, List.forall_mem_cons.mpr ⟨ptF c213_0_k2, fun _ h => (by cases h)⟩⟩⟩)

def zc810 : AC := .inr (0, .inl [.inl ((.ofNat 0), [(29, (.ofNat 1))]), .inl ((.ofNat 0), [(30, (.ofNat 1))]), .inl ((.ofNat 0), [(31, (.ofNat 1))]), .inl ((.ofNat 0), [(32, (.ofNat 1))]), .inl ((.ofNat 0), [(33, (.ofNat 1))]), .inl ((.ofNat 0), [(34, (.ofNat 1))]), .inl ((.ofNat 0), [(35, (.ofNat 1))]), .inl ((.ofNat 0), [(36, (.ofNat 1))]), .inr (5, (.negSucc 2147483647), (.ofNat 2147483647)), .inr (1, (.ofNat 0), (.ofNat 3)), .inl ((.ofNat 0), [(37, (.ofNat 1))]), .inr (2, (.negSucc 2147483647), (.ofNat 2147483647)), .inr (1, (.ofNat 1), (.ofNat 1000)), .inr (1, (.ofNat 0), (.ofNat 50)), .inr (23, (.negSucc 2147483647), (.ofNat 2147483647)), .inl ((.ofNat 0), [(38, (.ofNat 1))]), .inr (39, (.negSucc 2147483647), (.ofNat 2147483647)), .inl ((.ofNat 0), [(39, (.ofNat 1))]), .inr (39, (.negSucc 2147483647), (.ofNat 2147483647)), .inl ((.ofNat 0), [(40, (.ofNat 1))]), .inr (39, (.negSucc 2147483647), (.ofNat 2147483647)), .inl ((.ofNat 0), [(41, (.ofNat 1))]), .inr (517, (.negSucc 2147483647), (.ofNat 2147483647)), .inr (12, (.ofNat 0), (.ofNat 60)), .inr (1, (.ofNat 0), (.ofNat 5)), .inr (1, (.ofNat 0), (.ofNat 39)), .inr (1, (.ofNat 0), (.ofNat 40)), .inr (1, (.ofNat 0), (.ofNat 5)), .inr (1, (.ofNat 0), (.ofNat 39)), .inr (1, (.ofNat 0), (.ofNat 40)), .inr (1, (.ofNat 0), (.ofNat 5)), .inr (1, (.ofNat 0), (.ofNat 39)), .inr (1, (.ofNat 0), (.ofNat 40)), .inr (1, (.ofNat 0), (.ofNat 5)), .inr (1, (.ofNat 0), (.ofNat 39)), .inr (1, (.ofNat 0), (.ofNat 40)), .inr (1, (.ofNat 0), (.ofNat 5)), .inr (1, (.ofNat 0), (.ofNat 39)), .inr (1, (.ofNat 0), (.ofNat 40)), .inr (1, (.ofNat 0), (.ofNat 5)), .inr (1, (.ofNat 0), (.ofNat 39)), .inr (1, (.ofNat 0), (.ofNat 40)), .inr (1, (.ofNat 0), (.ofNat 5)), .inr (1, (.ofNat 0), (.ofNat 39)), .inr (1, (.ofNat 0), (.ofNat 40)), .inr (1, (.ofNat 0), (.ofNat 5)), .inr (1, (.ofNat 0), (.ofNat 39)), .inr (1, (.ofNat 0), (.ofNat 40)), .inr (76, (.negSucc 2147483647), (.ofNat 2147483647)), .inr (2, (.negSucc 2147483647), (.ofNat 2147483647)), .inr (1, (.ofNat 0), (.ofNat 5)), .inr (2, (.negSucc 2147483647), (.ofNat 2147483647)), .inr (2, (.negSucc 2147483647), (.ofNat 2147483647)), .inr (1, (.ofNat 0), (.ofNat 5)), .inr (2, (.negSucc 2147483647), (.ofNat 2147483647)), .inr (2, (.negSucc 2147483647), (.ofNat 2147483647)), .inr (1, (.ofNat 0), (.ofNat 5)), .inr (2, (.negSucc 2147483647), (.ofNat 2147483647)), .inr (2, (.negSucc 2147483647), (.ofNat 2147483647)), .inr (1, (.ofNat 0), (.ofNat 5)), .inr (2, (.negSucc 2147483647), (.ofNat 2147483647)), .inr (2, (.negSucc 2147483647), (.ofNat 2147483647)), .inr (1, (.ofNat 0), (.ofNat 5)), .inr (2, (.negSucc 2147483647), (.ofNat 2147483647)), .inr (2, (.negSucc 2147483647), (.ofNat 2147483647)), .inr (1, (.ofNat 0), (.ofNat 5)), .inr (2, (.negSucc 2147483647), (.ofNat 2147483647)), .inr (2, (.negSucc 2147483647), (.ofNat 2147483647)), .inr (1, (.ofNat 0), (.ofNat 5)), .inr (2, (.negSucc 2147483647), (.ofNat 2147483647)), .inr (2, (.negSucc 2147483647), (.ofNat 2147483647)), .inr (1, (.ofNat 0), (.ofNat 5)), .inr (2, (.negSucc 2147483647), (.ofNat 2147483647)), .inr (60, (.ofNat 0), (.ofNat 127)), .inr (18, (.negSucc 2147483647), (.ofNat 2147483647))])
noncomputable def c212_0 : Ct := (212, 7, (43, [(0, (.ofNat 0), (.ofNat 3)), (1, (.ofNat 0), (.ofNat 11)), (2, (.negSucc 2147483647), (.ofNat 2147483647)), (3, (.ofNat 1), (.ofNat 20)), (4, (.ofNat 0), (.ofNat 69)), (5, (.ofNat 0), (.ofNat 69)), (6, (.ofNat 0), (.ofNat 8)), (7, (.negSucc 2147483647), (.ofNat 2147483647)), (8, (.negSucc 2147483647), (.ofNat 2147483647)), (9, (.negSucc 2147483647), (.ofNat 2147483647)), (10, (.negSucc 2147483647), (.ofNat 2147483647)), (11, (.negSucc 2147483647), (.ofNat 2147483647)), (12, (.negSucc 2147483647), (.ofNat 2147483647)), (13, (.negSucc 2147483647), (.ofNat 2147483647)), (14, (.ofNat 1), (.ofNat 4)), (15, (.ofNat 0), (.ofNat 60)), (16, (.ofNat 0), (.ofNat 8)), (17, (.ofNat 0), (.ofNat 6)), (18, (.ofNat 0), (.ofNat 8)), (19, (.ofNat 0), (.ofNat 60)), (20, (.ofNat 0), (.ofNat 60)), (21, (.ofNat 0), (.ofNat 10)), (22, (.negSucc 2147483647), (.ofNat 2147483647)), (23, (.ofNat 0), (.ofNat 1)), (24, (.ofNat 0), (.ofNat 1)), (25, (.ofNat 0), (.ofNat 1)), (26, (.ofNat 0), (.ofNat 1)), (29, (.ofNat 1), (.ofNat 4)), (30, (.ofNat 0), (.ofNat 60)), (31, (.ofNat 0), (.ofNat 8)), (32, (.ofNat 0), (.ofNat 6)), (33, (.ofNat 0), (.ofNat 8)), (34, (.ofNat 0), (.ofNat 60)), (35, (.ofNat 0), (.ofNat 60)), (36, (.ofNat 0), (.ofNat 10)), (37, (.negSucc 2147483647), (.ofNat 2147483647)), (38, (.ofNat 0), (.ofNat 1)), (39, (.ofNat 0), (.ofNat 1)), (40, (.ofNat 0), (.ofNat 1)), (41, (.ofNat 0), (.ofNat 1))], [((.ofNat 1), [(23, (.negSucc 0)), (24, (.negSucc 0)), (25, (.negSucc 0)), (26, (.negSucc 0))]), ((.ofNat 1), [(38, (.negSucc 0)), (39, (.negSucc 0)), (40, (.negSucc 0)), (41, (.negSucc 0))])], [.inr (.inl (some 0)), .inl (false, ((.ofNat 0), [(0, (.ofNat 1))])), .inl (false, ((.ofNat 0), [(1, (.ofNat 1))])), .inl (false, ((.ofNat 0), [(2, (.ofNat 1))])), .inl (false, ((.ofNat 0), [(3, (.ofNat 1))]))], [zc632,
    zc633,
    zc60,
    zc634,
    zc642,
    zc642,
    zc642,
    .inr (1, .inr (.inl 70)),
    .inr (1, .inr (.inl 8)),
    zc810,
    zc807,
    zc428,
    zc428,
    zc71,
    .inr (1, .inr (.inl 4))], [(1, [10], []), (2, [10], []), (1, [1], []), (2, [1], []), (1, [9], []), (2, [9], [])]),
  [((51, [(43, (.ofNat 0), (.ofNat 3)), (44, (.ofNat 0), (.ofNat 69)), (45, (.ofNat 0), (.ofNat 68)), (46, (.ofNat 0), (.ofNat 8)), (47, (.negSucc 2147483647), (.ofNat 2147483647)), (48, (.negSucc 0), (.ofNat 20)), (49, (.ofNat 0), (.ofNat 2147483647)), (50, (.negSucc 0), (.ofNat 20))], [], [.inl (false, ((.ofNat 0), [(43, (.ofNat 1))]))], [.inl (12, [.inr (.inl (some 1)), .inr (.inl (some 2)), .inr (.inl (some 3)), .inl (false, ((.ofNat 0), [(45, (.ofNat 1))])), .inr (.inl (some 4)), .inr (.inl (some 5)), .inl (false, ((.ofNat 0), [(44, (.ofNat 1))])), .inr (.inl (some 6)), .inr (.inl (some 7)), .inl (false, ((.ofNat 0), [(46, (.ofNat 1))])), .inr (.inl (some 8)), .inl (false, ((.ofNat 0), [(47, (.ofNat 1))])), .inr (.inl (some 9)), .inr (.inl (some 10)), .inr (.inl (some 11)), .inr (.inl (some 12)), .inl (false, ((.ofNat 0), [(48, (.ofNat 1))])), .inl (false, ((.ofNat 0), [(49, (.ofNat 1))])), .inl (false, ((.ofNat 0), [(50, (.ofNat 1))])), .inr (.inl (some 13)), .inl (false, ((.ofNat 0), [(11, (.ofNat 1))])), .inl (false, ((.ofNat 0), [(12, (.ofNat 1))])), .inl (false, ((.ofNat 0), [(13, (.ofNat 1))])), .inr (.inl (some 14))]),
    zc810,
    zc60,
    zc634,
    zc642,
    zc642,
    zc642,
    .inr (1, .inr (.inl 70)),
    .inr (1, .inr (.inl 8)),
    zc810,
    zc807,
    zc428,
    zc428,
    zc71,
    .inr (1, .inr (.inl 4))], [(1, [10], []), (2, [10], []), (1, [1], []), (2, [1], []), (1, [9], []), (2, [9], [])]), 0, 0)])
noncomputable def c212_0_e : List Ct := [c170_0, c174_0, c211_0, c213_0]
noncomputable def c212_0_p0 : PE := (25, [0, 1, 2, 3, 4, 5, 6, 7], (60, [(0, (.ofNat 0), (.ofNat 3)), (1, (.ofNat 0), (.ofNat 11)), (2, (.negSucc 2147483647), (.ofNat 2147483647)), (3, (.ofNat 1), (.ofNat 20)), (4, (.ofNat 0), (.ofNat 69)), (5, (.ofNat 0), (.ofNat 69)), (6, (.ofNat 0), (.ofNat 8)), (7, (.negSucc 2147483647), (.ofNat 2147483647)), (8, (.negSucc 2147483647), (.ofNat 2147483647)), (9, (.negSucc 2147483647), (.ofNat 2147483647)), (10, (.negSucc 2147483647), (.ofNat 2147483647)), (11, (.negSucc 2147483647), (.ofNat 2147483647)), (12, (.negSucc 2147483647), (.ofNat 2147483647)), (13, (.negSucc 2147483647), (.ofNat 2147483647)), (14, (.ofNat 1), (.ofNat 4)), (15, (.ofNat 0), (.ofNat 60)), (16, (.ofNat 0), (.ofNat 8)), (17, (.ofNat 0), (.ofNat 6)), (18, (.ofNat 0), (.ofNat 8)), (19, (.ofNat 0), (.ofNat 60)), (20, (.ofNat 0), (.ofNat 60)), (21, (.ofNat 0), (.ofNat 10)), (22, (.negSucc 2147483647), (.ofNat 2147483647)), (23, (.ofNat 0), (.ofNat 1)), (24, (.ofNat 0), (.ofNat 1)), (25, (.ofNat 0), (.ofNat 1)), (26, (.ofNat 0), (.ofNat 1)), (29, (.ofNat 1), (.ofNat 4)), (30, (.ofNat 0), (.ofNat 60)), (31, (.ofNat 0), (.ofNat 8)), (32, (.ofNat 0), (.ofNat 6)), (33, (.ofNat 0), (.ofNat 8)), (34, (.ofNat 0), (.ofNat 60)), (35, (.ofNat 0), (.ofNat 60)), (36, (.ofNat 0), (.ofNat 10)), (37, (.negSucc 2147483647), (.ofNat 2147483647)), (38, (.ofNat 0), (.ofNat 1)), (39, (.ofNat 0), (.ofNat 1)), (40, (.ofNat 0), (.ofNat 1)), (41, (.ofNat 0), (.ofNat 1)), (43, (.ofNat 1), (.ofNat 20)), (44, (.negSucc 2147483647), (.ofNat 2147483647)), (45, (.ofNat 0), (.ofNat 1)), (46, (.ofNat 0), (.ofNat 69)), (47, (.ofNat 0), (.ofNat 68)), (48, (.ofNat 0), (.ofNat 8)), (49, (.negSucc 2147483647), (.ofNat 2147483647)), (50, (.negSucc 0), (.ofNat 20)), (51, (.ofNat 0), (.ofNat 2147483647)), (52, (.negSucc 0), (.ofNat 20)), (53, (.ofNat 0), (.ofNat 60)), (54, (.ofNat 0), (.ofNat 60)), (55, (.negSucc 2147483647), (.ofNat 2147483647)), (56, (.ofNat 0), (.ofNat 1)), (57, (.ofNat 0), (.ofNat 1)), (58, (.ofNat 0), (.ofNat 1)), (59, (.ofNat 0), (.ofNat 1))], [((.ofNat 1), [(23, (.negSucc 0)), (24, (.negSucc 0)), (25, (.negSucc 0)), (26, (.negSucc 0))]), ((.ofNat 1), [(38, (.negSucc 0)), (39, (.negSucc 0)), (40, (.negSucc 0)), (41, (.negSucc 0))]), ((.ofNat 1), [(56, (.negSucc 0)), (57, (.negSucc 0)), (58, (.negSucc 0)), (59, (.negSucc 0))])], [.inr (.inl (some 0)), .inl (false, ((.ofNat 0), [(0, (.ofNat 1))])), .inl (false, ((.ofNat 0), [(1, (.ofNat 1))])), .inl (false, ((.ofNat 0), [(2, (.ofNat 1))])), .inl (false, ((.ofNat 0), [(3, (.ofNat 1))])), .inl (false, ((.ofNat 0), [(43, (.ofNat 1))])), .inl (false, ((.ofNat 0), [(44, (.ofNat 1))])), .inl (false, ((.ofNat 0), [(45, (.ofNat 1))]))], [.inl (12, [.inr (.inl (some 1)), .inr (.inl (some 2)), .inr (.inl (some 3)), .inl (false, ((.ofNat 0), [(47, (.ofNat 1))])), .inr (.inl (some 4)), .inr (.inl (some 5)), .inl (false, ((.ofNat 0), [(46, (.ofNat 1))])), .inr (.inl (some 6)), .inr (.inl (some 7)), .inl (false, ((.ofNat 0), [(48, (.ofNat 1))])), .inr (.inl (some 8)), .inl (false, ((.ofNat 0), [(49, (.ofNat 1))])), .inr (.inl (some 9)), .inr (.inl (some 10)), .inr (.inl (some 11)), .inr (.inl (some 12)), .inl (false, ((.ofNat 0), [(50, (.ofNat 1))])), .inl (false, ((.ofNat 0), [(51, (.ofNat 1))])), .inl (false, ((.ofNat 0), [(52, (.ofNat 1))])), .inr (.inl (some 13)), .inl (false, ((.ofNat 0), [(11, (.ofNat 1))])), .inl (false, ((.ofNat 0), [(12, (.ofNat 1))])), .inl (false, ((.ofNat 0), [(13, (.ofNat 1))])), .inr (.inl (some 14))]),
    .inr (0, .inl [.inl ((.ofNat 0), [(14, (.ofNat 1))]), .inl ((.ofNat 0), [(53, (.ofNat 1))]), .inl ((.ofNat 0), [(16, (.ofNat 1))]), .inl ((.ofNat 0), [(17, (.ofNat 1))]), .inl ((.ofNat 0), [(18, (.ofNat 1))]), .inl ((.ofNat 0), [(19, (.ofNat 1))]), .inl ((.ofNat 0), [(54, (.ofNat 1))]), .inl ((.ofNat 0), [(21, (.ofNat 1))]), .inr (5, (.negSucc 2147483647), (.ofNat 2147483647)), .inr (1, (.ofNat 0), (.ofNat 3)), .inl ((.ofNat 0), [(55, (.ofNat 1))]), .inr (2, (.negSucc 2147483647), (.ofNat 2147483647)), .inr (1, (.ofNat 1), (.ofNat 1000)), .inr (1, (.ofNat 0), (.ofNat 50)), .inr (23, (.negSucc 2147483647), (.ofNat 2147483647)), .inl ((.ofNat 0), [(56, (.ofNat 1))]), .inr (39, (.negSucc 2147483647), (.ofNat 2147483647)), .inl ((.ofNat 0), [(57, (.ofNat 1))]), .inr (39, (.negSucc 2147483647), (.ofNat 2147483647)), .inl ((.ofNat 0), [(58, (.ofNat 1))]), .inr (39, (.negSucc 2147483647), (.ofNat 2147483647)), .inl ((.ofNat 0), [(59, (.ofNat 1))]), .inr (517, (.negSucc 2147483647), (.ofNat 2147483647)), .inr (12, (.ofNat 0), (.ofNat 60)), .inr (1, (.ofNat 0), (.ofNat 5)), .inr (1, (.ofNat 0), (.ofNat 39)), .inr (1, (.ofNat 0), (.ofNat 40)), .inr (1, (.ofNat 0), (.ofNat 5)), .inr (1, (.ofNat 0), (.ofNat 39)), .inr (1, (.ofNat 0), (.ofNat 40)), .inr (1, (.ofNat 0), (.ofNat 5)), .inr (1, (.ofNat 0), (.ofNat 39)), .inr (1, (.ofNat 0), (.ofNat 40)), .inr (1, (.ofNat 0), (.ofNat 5)), .inr (1, (.ofNat 0), (.ofNat 39)), .inr (1, (.ofNat 0), (.ofNat 40)), .inr (1, (.ofNat 0), (.ofNat 5)), .inr (1, (.ofNat 0), (.ofNat 39)), .inr (1, (.ofNat 0), (.ofNat 40)), .inr (1, (.ofNat 0), (.ofNat 5)), .inr (1, (.ofNat 0), (.ofNat 39)), .inr (1, (.ofNat 0), (.ofNat 40)), .inr (1, (.ofNat 0), (.ofNat 5)), .inr (1, (.ofNat 0), (.ofNat 39)), .inr (1, (.ofNat 0), (.ofNat 40)), .inr (1, (.ofNat 0), (.ofNat 5)), .inr (1, (.ofNat 0), (.ofNat 39)), .inr (1, (.ofNat 0), (.ofNat 40)), .inr (78, (.negSucc 2147483647), (.ofNat 2147483647)), .inr (1, (.ofNat 0), (.ofNat 5)), .inr (4, (.negSucc 2147483647), (.ofNat 2147483647)), .inr (1, (.ofNat 0), (.ofNat 5)), .inr (4, (.negSucc 2147483647), (.ofNat 2147483647)), .inr (1, (.ofNat 0), (.ofNat 5)), .inr (4, (.negSucc 2147483647), (.ofNat 2147483647)), .inr (1, (.ofNat 0), (.ofNat 5)), .inr (4, (.negSucc 2147483647), (.ofNat 2147483647)), .inr (1, (.ofNat 0), (.ofNat 5)), .inr (4, (.negSucc 2147483647), (.ofNat 2147483647)), .inr (1, (.ofNat 0), (.ofNat 5)), .inr (4, (.negSucc 2147483647), (.ofNat 2147483647)), .inr (1, (.ofNat 0), (.ofNat 5)), .inr (4, (.negSucc 2147483647), (.ofNat 2147483647)), .inr (1, (.ofNat 0), (.ofNat 5)), .inr (2, (.negSucc 2147483647), (.ofNat 2147483647)), .inr (60, (.ofNat 0), (.ofNat 127)), .inr (18, (.negSucc 2147483647), (.ofNat 2147483647))]),
    zc60,
    zc634,
    zc642,
    zc642,
    zc642,
    .inr (1, .inr (.inl 70)),
    .inr (1, .inr (.inl 8)),
    zc810,
    zc807,
    zc428,
    zc428,
    zc71,
    .inr (1, .inr (.inl 4))], [(1, [10], []), (2, [10], []), (1, [9], []), (2, [9], []), (1, [1], []), (2, [1], [])]), symsL 43 0, some ((.ofNat 41), [(43, (.negSucc 0))]), 0, 0)
noncomputable def c212_0_p1 : PE := (25, [0, 1, 2, 3, 4, 5], (43, [(0, (.ofNat 0), (.ofNat 3)), (1, (.ofNat 0), (.ofNat 11)), (2, (.negSucc 2147483647), (.ofNat 2147483647)), (3, (.ofNat 1), (.ofNat 20)), (4, (.ofNat 0), (.ofNat 69)), (5, (.ofNat 0), (.ofNat 69)), (6, (.ofNat 0), (.ofNat 8)), (7, (.negSucc 2147483647), (.ofNat 2147483647)), (8, (.negSucc 2147483647), (.ofNat 2147483647)), (9, (.negSucc 2147483647), (.ofNat 2147483647)), (10, (.negSucc 2147483647), (.ofNat 2147483647)), (11, (.negSucc 2147483647), (.ofNat 2147483647)), (12, (.negSucc 2147483647), (.ofNat 2147483647)), (13, (.negSucc 2147483647), (.ofNat 2147483647)), (14, (.ofNat 1), (.ofNat 4)), (15, (.ofNat 0), (.ofNat 60)), (16, (.ofNat 0), (.ofNat 8)), (17, (.ofNat 0), (.ofNat 6)), (18, (.ofNat 0), (.ofNat 8)), (19, (.ofNat 0), (.ofNat 60)), (20, (.ofNat 0), (.ofNat 60)), (21, (.ofNat 0), (.ofNat 10)), (22, (.negSucc 2147483647), (.ofNat 2147483647)), (23, (.ofNat 0), (.ofNat 1)), (24, (.ofNat 0), (.ofNat 1)), (25, (.ofNat 0), (.ofNat 1)), (26, (.ofNat 0), (.ofNat 1)), (29, (.ofNat 1), (.ofNat 4)), (30, (.ofNat 0), (.ofNat 60)), (31, (.ofNat 0), (.ofNat 8)), (32, (.ofNat 0), (.ofNat 6)), (33, (.ofNat 0), (.ofNat 8)), (34, (.ofNat 0), (.ofNat 60)), (35, (.ofNat 0), (.ofNat 60)), (36, (.ofNat 0), (.ofNat 10)), (37, (.negSucc 2147483647), (.ofNat 2147483647)), (38, (.ofNat 0), (.ofNat 1)), (39, (.ofNat 0), (.ofNat 1)), (40, (.ofNat 0), (.ofNat 1)), (41, (.ofNat 0), (.ofNat 1))], [((.ofNat 1), [(23, (.negSucc 0)), (24, (.negSucc 0)), (25, (.negSucc 0)), (26, (.negSucc 0))]), ((.ofNat 1), [(38, (.negSucc 0)), (39, (.negSucc 0)), (40, (.negSucc 0)), (41, (.negSucc 0))])], [.inr (.inl (some 0)), .inl (false, ((.ofNat 0), [(0, (.ofNat 1))])), .inl (false, ((.ofNat 0), [(1, (.ofNat 1))])), .inl (false, ((.ofNat 0), [(2, (.ofNat 1))])), .inl (false, ((.ofNat 0), [(3, (.ofNat 1))])), .inl (false, ((.ofNat 0), []))], [.inl (12, [.inr (.inl (some 1)), .inr (.inl (some 2)), .inr (.inl (some 3)), .inl (false, ((.ofNat 0), [(4, (.ofNat 1))])), .inr (.inl (some 4)), .inr (.inl (some 5)), .inl (false, ((.ofNat 0), [(5, (.ofNat 1))])), .inr (.inl (some 6)), .inr (.inl (some 7)), .inl (false, ((.ofNat 0), [(6, (.ofNat 1))])), .inr (.inl (some 8)), .inl (false, ((.ofNat 0), [(7, (.ofNat 1))])), .inr (.inl (some 9)), .inr (.inl (some 10)), .inr (.inl (some 11)), .inr (.inl (some 12)), .inl (false, ((.negSucc 0), [])), .inl (false, ((.ofNat 0), [])), .inl (false, ((.negSucc 0), [])), .inr (.inl (some 13)), .inl (false, ((.ofNat 0), [(11, (.ofNat 1))])), .inl (false, ((.ofNat 0), [(12, (.ofNat 1))])), .inl (false, ((.ofNat 0), [(13, (.ofNat 1))])), .inr (.inl (some 14))]),
    zc633,
    zc60,
    zc634,
    zc642,
    zc642,
    zc642,
    .inr (1, .inr (.inl 70)),
    .inr (1, .inr (.inl 8)),
    zc810,
    zc807,
    zc428,
    zc428,
    zc71,
    .inr (1, .inr (.inl 4))], [(1, [10], []), (2, [10], []), (1, [9], []), (2, [9], []), (1, [1], []), (2, [1], [])]), symsL 43 0, some ((.ofNat 41), []), 0, 0)
noncomputable def c212_0_pts : List PE := [c212_0_p0, c212_0_p1]
set_option maxRecDepth 100000 in
theorem c212_0_k : enCtF c212_0 c212_0_e (c212_0_pts ++ []) (none) (noF, noM, 33554432, 0, 43) 3000 = true := by decide +kernel
set_option maxRecDepth 100000 in
theorem c212_0_k0 : ptCtF c212_0 c212_0_e (c212_0_pts ++ []) (noF, noM, 33554432, 0, 43) 3000 c212_0_p0 = true := by decide +kernel
set_option maxRecDepth 100000 in
theorem c212_0_k1 : ptCtF c212_0 c212_0_e (c212_0_pts ++ []) (noF, noM, 33554432, 0, 43) 3000 c212_0_p1 = true := by decide +kernel
set_option maxRecDepth 100000 in
theorem c212_0_v : ValidC PPk c212_0 := ct_ok fpk ⟨noF_ok, noM_ok⟩ (d := 6) (ext := []) (pts := c212_0_pts) (env := c212_0_e) rfl (List.forall_mem_cons.mpr ⟨⟨c170_0_v, Nat.le_of_ble_eq_true rfl⟩, List.forall_mem_cons.mpr ⟨⟨c174_0_v, Nat.le_of_ble_eq_true rfl⟩, List.forall_mem_cons.mpr ⟨⟨c211_0_v, Nat.le_of_ble_eq_true rfl⟩, List.forall_mem_cons.mpr ⟨⟨c213_0_v, Nat.le_of_ble_eq_true rfl⟩, fun _ h => (by cases h)⟩⟩⟩⟩) ext_nil (fun q h => (by cases h)) (enF c212_0_k) (List.forall_mem_cons.mpr ⟨ptF c212_0_k0, List.forall_mem_cons.mpr ⟨ptF c212_0_k1, fun _ h => (by cases h)⟩⟩)

noncomputable def c208_0 : Ct := (208, 8, (31, [(0, (.negSucc 2147483647), (.ofNat 2147483647)), (1, (.negSucc 2147483647), (.ofNat 2147483647)), (2, (.negSucc 2147483647), (.ofNat 2147483647)), (3, (.negSucc 2147483647), (.ofNat 2147483647)), (4, (.negSucc 2147483647), (.ofNat 2147483647)), (5, (.ofNat 0), (.ofNat 69)), (6, (.ofNat 0), (.ofNat 69)), (7, (.ofNat 0), (.ofNat 8)), (8, (.negSucc 2147483647), (.ofNat 2147483647)), (9, (.negSucc 2147483647), (.ofNat 2147483647)), (10, (.negSucc 2147483647), (.ofNat 2147483647)), (11, (.negSucc 2147483647), (.ofNat 2147483647)), (12, (.negSucc 2147483647), (.ofNat 2147483647)), (13, (.negSucc 2147483647), (.ofNat 2147483647)), (14, (.negSucc 2147483647), (.ofNat 2147483647)), (15, (.ofNat 1), (.ofNat 4)), (16, (.ofNat 0), (.ofNat 60)), (17, (.ofNat 0), (.ofNat 8)), (18, (.ofNat 0), (.ofNat 6)), (19, (.ofNat 0), (.ofNat 8)), (20, (.ofNat 0), (.ofNat 60)), (21, (.ofNat 0), (.ofNat 60)), (22, (.ofNat 0), (.ofNat 10)), (23, (.negSucc 2147483647), (.ofNat 2147483647)), (24, (.ofNat 0), (.ofNat 1)), (25, (.ofNat 0), (.ofNat 1)), (26, (.ofNat 0), (.ofNat 1)), (27, (.ofNat 0), (.ofNat 1))], [((.ofNat 1), [(24, (.negSucc 0)), (25, (.negSucc 0)), (26, (.negSucc 0)), (27, (.negSucc 0))])], [.inr (.inl (some 0)), .inl (false, ((.ofNat 0), [(0, (.ofNat 1))])), .inl (false, ((.ofNat 0), [(1, (.ofNat 1))])), .inl (false, ((.ofNat 0), [(2, (.ofNat 1))])), .inl (false, ((.ofNat 0), [(3, (.ofNat 1))])), .inl (false, ((.ofNat 0), [(4, (.ofNat 1))]))], [zc802,
    zc803,
    zc61,
    zc804,
    zc642,
    zc642,
    zc642,
    .inr (1, .inr (.inl 70)),
    .inr (1, .inr (.inl 8)),
    zc807,
    zc807,
    zc428,
    zc428,
    zc63,
    .inr (1, .inr (.inl 4))], [(1, [1], []), (2, [1], [])]),
  [((39, [(31, (.negSucc 99), (.ofNat 2147483647)), (32, (.ofNat 0), (.ofNat 69)), (33, (.ofNat 0), (.ofNat 69)), (34, (.ofNat 0), (.ofNat 8)), (35, (.negSucc 2147483647), (.ofNat 2147483647)), (36, (.negSucc 2147483647), (.ofNat 2147483647)), (37, (.negSucc 2147483647), (.ofNat 2147483647)), (38, (.negSucc 2147483647), (.ofNat 2147483647))], [], [.inl (false, ((.ofNat 0), [(31, (.ofNat 1))]))], [.inl (12, [.inr (.inl (some 1)), .inr (.inl (some 2)), .inr (.inl (some 3)), .inl (false, ((.ofNat 0), [(33, (.ofNat 1))])), .inr (.inl (some 4)), .inr (.inl (some 5)), .inl (false, ((.ofNat 0), [(32, (.ofNat 1))])), .inr (.inl (some 6)), .inr (.inl (some 7)), .inl (false, ((.ofNat 0), [(34, (.ofNat 1))])), .inr (.inl (some 8)), .inl (false, ((.ofNat 0), [(35, (.ofNat 1))])), .inr (.inl (some 9)), .inr (.inl (some 10)), .inr (.inl (some 11)), .inr (.inl (some 12)), .inl (false, ((.ofNat 0), [(36, (.ofNat 1))])), .inl (false, ((.ofNat 0), [(37, (.ofNat 1))])), .inl (false, ((.ofNat 0), [(38, (.ofNat 1))])), .inr (.inl (some 13)), .inl (false, ((.ofNat 0), [(12, (.ofNat 1))])), .inl (false, ((.ofNat 0), [(13, (.ofNat 1))])), .inl (false, ((.ofNat 0), [(14, (.ofNat 1))])), .inr (.inl (some 14))]),
    zc803,
    zc61,
    zc804,
    zc642,
    zc642,
    zc642,
    .inr (1, .inr (.inl 70)),
    .inr (1, .inr (.inl 8)),
    zc807,
    zc807,
    zc428,
    zc428,
    zc63,
    .inr (1, .inr (.inl 4))], [(1, [1], []), (2, [1], [])]), 0, 0)])
noncomputable def c208_0_e : List Ct := [c145_0, c173_0, c209_0, c210_0, c212_0]
noncomputable def c208_0_pts : List PE := []
set_option maxRecDepth 100000 in
theorem c208_0_k : enCtF c208_0 c208_0_e (c208_0_pts ++ []) (none) noH 3000 = true := by decide +kernel
set_option maxRecDepth 100000 in
theorem c208_0_v : ValidC PPk c208_0 := ct_ok fpk noH_ok (d := 7) (ext := []) (pts := c208_0_pts) (env := c208_0_e) rfl (List.forall_mem_cons.mpr ⟨⟨c145_0_v, Nat.le_of_ble_eq_true rfl⟩, List.forall_mem_cons.mpr ⟨⟨c173_0_v, Nat.le_of_ble_eq_true rfl⟩, List.forall_mem_cons.mpr ⟨⟨c209_0_v, Nat.le_of_ble_eq_true rfl⟩, List.forall_mem_cons.mpr ⟨⟨c210_0_v, Nat.le_of_ble_eq_true rfl⟩, List.forall_mem_cons.mpr ⟨⟨c212_0_v, Nat.le_of_ble_eq_true rfl⟩, fun _ h => (by cases h)⟩⟩⟩⟩⟩) ext_nil (fun q h => (by cases h)) (enF c208_0_k) (fun _ h => (by cases h))
