/-! ===== contracts, written by wip/vse3/emitlaw.py ===== -/
def zc255 : AC := .inr (103, .inl [.inl ((.ofNat 0), [(12, (.ofNat 1))])])
def zc256 : AC := .inl (12, [.inr (.inl (some 1)), .inr (.inl (some 2)), .inr (.inl (some 3)), .inl (false, ((.ofNat 0), [(0, (.ofNat 1)), (1, (.ofNat 1))])), .inr (.inl (some 4)), .inr (.inl (some 5)), .inl (false, ((.ofNat 0), [])), .inr (.inl (some 6)), .inr (.inl (some 7)), .inl (false, ((.ofNat 0), [(2, (.ofNat 1))])), .inr (.inl (some 8)), .inl (false, ((.ofNat 0), [(3, (.ofNat 1))])), .inr (.inl (some 9)), .inr (.inl (some 10)), .inr (.inl (some 11)), .inr (.inl (some 12)), .inl (false, ((.ofNat 0), [(4, (.ofNat 1))])), .inl (false, ((.ofNat 0), [(5, (.ofNat 1))])), .inl (false, ((.ofNat 0), [(6, (.ofNat 1))])), .inr (.inl (some 13)), .inl (false, ((.ofNat 0), [(7, (.ofNat 1))])), .inl (false, ((.ofNat 0), [(8, (.ofNat 1))])), .inl (false, ((.ofNat 0), [(9, (.ofNat 1))])), .inr (.inl (some 14))])
def zc257 : AC := .inl (12, [.inr (.inl (some 1)), .inr (.inl (some 2)), .inr (.inl (some 3)), .inl (false, ((.negSucc 0), [(0, (.ofNat 1)), (1, (.ofNat 1))])), .inr (.inl (some 4)), .inr (.inl (some 5)), .inl (false, ((.ofNat 1), [])), .inr (.inl (some 6)), .inr (.inl (some 7)), .inl (false, ((.ofNat 0), [(2, (.ofNat 1))])), .inr (.inl (some 8)), .inl (false, ((.ofNat 0), [(3, (.ofNat 1))])), .inr (.inl (some 9)), .inr (.inl (some 10)), .inr (.inl (some 11)), .inr (.inl (some 12)), .inl (false, ((.ofNat 0), [(4, (.ofNat 1))])), .inl (false, ((.ofNat 0), [(5, (.ofNat 1))])), .inl (false, ((.ofNat 0), [(6, (.ofNat 1))])), .inr (.inl (some 13)), .inl (false, ((.ofNat 0), [(7, (.ofNat 1))])), .inl (false, ((.ofNat 0), [(8, (.ofNat 1))])), .inl (false, ((.ofNat 0), [(9, (.ofNat 1))])), .inr (.inl (some 14))])
def zc258 : AC := .inl (12, [.inr (.inl (some 1)), .inr (.inl (some 2)), .inr (.inl (some 3)), .inl (false, ((.negSucc 9), [(0, (.ofNat 1)), (1, (.ofNat 1))])), .inr (.inl (some 4)), .inr (.inl (some 5)), .inl (false, ((.ofNat 10), [])), .inr (.inl (some 6)), .inr (.inl (some 7)), .inl (false, ((.ofNat 0), [(2, (.ofNat 1))])), .inr (.inl (some 8)), .inl (false, ((.ofNat 0), [(3, (.ofNat 1))])), .inr (.inl (some 9)), .inr (.inl (some 10)), .inr (.inl (some 11)), .inr (.inl (some 12)), .inl (false, ((.ofNat 0), [(4, (.ofNat 1))])), .inl (false, ((.ofNat 0), [(5, (.ofNat 1))])), .inl (false, ((.ofNat 0), [(6, (.ofNat 1))])), .inr (.inl (some 13)), .inl (false, ((.ofNat 0), [(7, (.ofNat 1))])), .inl (false, ((.ofNat 0), [(8, (.ofNat 1))])), .inl (false, ((.ofNat 0), [(9, (.ofNat 1))])), .inr (.inl (some 14))])
def zc259 : AC := .inl (12, [.inr (.inl (some 1)), .inr (.inl (some 2)), .inr (.inl (some 3)), .inl (false, ((.negSucc 10), [(0, (.ofNat 1)), (1, (.ofNat 1))])), .inr (.inl (some 4)), .inr (.inl (some 5)), .inl (false, ((.ofNat 11), [])), .inr (.inl (some 6)), .inr (.inl (some 7)), .inl (false, ((.ofNat 0), [(2, (.ofNat 1))])), .inr (.inl (some 8)), .inl (false, ((.ofNat 0), [(3, (.ofNat 1))])), .inr (.inl (some 9)), .inr (.inl (some 10)), .inr (.inl (some 11)), .inr (.inl (some 12)), .inl (false, ((.ofNat 0), [(4, (.ofNat 1))])), .inl (false, ((.ofNat 0), [(5, (.ofNat 1))])), .inl (false, ((.ofNat 0), [(6, (.ofNat 1))])), .inr (.inl (some 13)), .inl (false, ((.ofNat 0), [(7, (.ofNat 1))])), .inl (false, ((.ofNat 0), [(8, (.ofNat 1))])), .inl (false, ((.ofNat 0), [(9, (.ofNat 1))])), .inr (.inl (some 14))])
def zc260 : AC := .inl (12, [.inr (.inl (some 1)), .inr (.inl (some 2)), .inr (.inl (some 3)), .inl (false, ((.negSucc 11), [(0, (.ofNat 1)), (1, (.ofNat 1))])), .inr (.inl (some 4)), .inr (.inl (some 5)), .inl (false, ((.ofNat 12), [])), .inr (.inl (some 6)), .inr (.inl (some 7)), .inl (false, ((.ofNat 0), [(2, (.ofNat 1))])), .inr (.inl (some 8)), .inl (false, ((.ofNat 0), [(3, (.ofNat 1))])), .inr (.inl (some 9)), .inr (.inl (some 10)), .inr (.inl (some 11)), .inr (.inl (some 12)), .inl (false, ((.ofNat 0), [(4, (.ofNat 1))])), .inl (false, ((.ofNat 0), [(5, (.ofNat 1))])), .inl (false, ((.ofNat 0), [(6, (.ofNat 1))])), .inr (.inl (some 13)), .inl (false, ((.ofNat 0), [(7, (.ofNat 1))])), .inl (false, ((.ofNat 0), [(8, (.ofNat 1))])), .inl (false, ((.ofNat 0), [(9, (.ofNat 1))])), .inr (.inl (some 14))])
def zc261 : AC := .inl (12, [.inr (.inl (some 1)), .inr (.inl (some 2)), .inr (.inl (some 3)), .inl (false, ((.negSucc 12), [(0, (.ofNat 1)), (1, (.ofNat 1))])), .inr (.inl (some 4)), .inr (.inl (some 5)), .inl (false, ((.ofNat 13), [])), .inr (.inl (some 6)), .inr (.inl (some 7)), .inl (false, ((.ofNat 0), [(2, (.ofNat 1))])), .inr (.inl (some 8)), .inl (false, ((.ofNat 0), [(3, (.ofNat 1))])), .inr (.inl (some 9)), .inr (.inl (some 10)), .inr (.inl (some 11)), .inr (.inl (some 12)), .inl (false, ((.ofNat 0), [(4, (.ofNat 1))])), .inl (false, ((.ofNat 0), [(5, (.ofNat 1))])), .inl (false, ((.ofNat 0), [(6, (.ofNat 1))])), .inr (.inl (some 13)), .inl (false, ((.ofNat 0), [(7, (.ofNat 1))])), .inl (false, ((.ofNat 0), [(8, (.ofNat 1))])), .inl (false, ((.ofNat 0), [(9, (.ofNat 1))])), .inr (.inl (some 14))])
def zc262 : AC := .inl (12, [.inr (.inl (some 1)), .inr (.inl (some 2)), .inr (.inl (some 3)), .inl (false, ((.negSucc 13), [(0, (.ofNat 1)), (1, (.ofNat 1))])), .inr (.inl (some 4)), .inr (.inl (some 5)), .inl (false, ((.ofNat 14), [])), .inr (.inl (some 6)), .inr (.inl (some 7)), .inl (false, ((.ofNat 0), [(2, (.ofNat 1))])), .inr (.inl (some 8)), .inl (false, ((.ofNat 0), [(3, (.ofNat 1))])), .inr (.inl (some 9)), .inr (.inl (some 10)), .inr (.inl (some 11)), .inr (.inl (some 12)), .inl (false, ((.ofNat 0), [(4, (.ofNat 1))])), .inl (false, ((.ofNat 0), [(5, (.ofNat 1))])), .inl (false, ((.ofNat 0), [(6, (.ofNat 1))])), .inr (.inl (some 13)), .inl (false, ((.ofNat 0), [(7, (.ofNat 1))])), .inl (false, ((.ofNat 0), [(8, (.ofNat 1))])), .inl (false, ((.ofNat 0), [(9, (.ofNat 1))])), .inr (.inl (some 14))])
def zc263 : AC := .inl (12, [.inr (.inl (some 1)), .inr (.inl (some 2)), .inr (.inl (some 3)), .inl (false, ((.negSucc 14), [(0, (.ofNat 1)), (1, (.ofNat 1))])), .inr (.inl (some 4)), .inr (.inl (some 5)), .inl (false, ((.ofNat 15), [])), .inr (.inl (some 6)), .inr (.inl (some 7)), .inl (false, ((.ofNat 0), [(2, (.ofNat 1))])), .inr (.inl (some 8)), .inl (false, ((.ofNat 0), [(3, (.ofNat 1))])), .inr (.inl (some 9)), .inr (.inl (some 10)), .inr (.inl (some 11)), .inr (.inl (some 12)), .inl (false, ((.ofNat 0), [(4, (.ofNat 1))])), .inl (false, ((.ofNat 0), [(5, (.ofNat 1))])), .inl (false, ((.ofNat 0), [(6, (.ofNat 1))])), .inr (.inl (some 13)), .inl (false, ((.ofNat 0), [(7, (.ofNat 1))])), .inl (false, ((.ofNat 0), [(8, (.ofNat 1))])), .inl (false, ((.ofNat 0), [(9, (.ofNat 1))])), .inr (.inl (some 14))])
def zc264 : AC := .inl (12, [.inr (.inl (some 1)), .inr (.inl (some 2)), .inr (.inl (some 3)), .inl (false, ((.negSucc 15), [(0, (.ofNat 1)), (1, (.ofNat 1))])), .inr (.inl (some 4)), .inr (.inl (some 5)), .inl (false, ((.ofNat 16), [])), .inr (.inl (some 6)), .inr (.inl (some 7)), .inl (false, ((.ofNat 0), [(2, (.ofNat 1))])), .inr (.inl (some 8)), .inl (false, ((.ofNat 0), [(3, (.ofNat 1))])), .inr (.inl (some 9)), .inr (.inl (some 10)), .inr (.inl (some 11)), .inr (.inl (some 12)), .inl (false, ((.ofNat 0), [(4, (.ofNat 1))])), .inl (false, ((.ofNat 0), [(5, (.ofNat 1))])), .inl (false, ((.ofNat 0), [(6, (.ofNat 1))])), .inr (.inl (some 13)), .inl (false, ((.ofNat 0), [(7, (.ofNat 1))])), .inl (false, ((.ofNat 0), [(8, (.ofNat 1))])), .inl (false, ((.ofNat 0), [(9, (.ofNat 1))])), .inr (.inl (some 14))])
def zc265 : AC := .inl (12, [.inr (.inl (some 1)), .inr (.inl (some 2)), .inr (.inl (some 3)), .inl (false, ((.negSucc 16), [(0, (.ofNat 1)), (1, (.ofNat 1))])), .inr (.inl (some 4)), .inr (.inl (some 5)), .inl (false, ((.ofNat 17), [])), .inr (.inl (some 6)), .inr (.inl (some 7)), .inl (false, ((.ofNat 0), [(2, (.ofNat 1))])), .inr (.inl (some 8)), .inl (false, ((.ofNat 0), [(3, (.ofNat 1))])), .inr (.inl (some 9)), .inr (.inl (some 10)), .inr (.inl (some 11)), .inr (.inl (some 12)), .inl (false, ((.ofNat 0), [(4, (.ofNat 1))])), .inl (false, ((.ofNat 0), [(5, (.ofNat 1))])), .inl (false, ((.ofNat 0), [(6, (.ofNat 1))])), .inr (.inl (some 13)), .inl (false, ((.ofNat 0), [(7, (.ofNat 1))])), .inl (false, ((.ofNat 0), [(8, (.ofNat 1))])), .inl (false, ((.ofNat 0), [(9, (.ofNat 1))])), .inr (.inl (some 14))])
def zc266 : AC := .inl (12, [.inr (.inl (some 1)), .inr (.inl (some 2)), .inr (.inl (some 3)), .inl (false, ((.negSucc 17), [(0, (.ofNat 1)), (1, (.ofNat 1))])), .inr (.inl (some 4)), .inr (.inl (some 5)), .inl (false, ((.ofNat 18), [])), .inr (.inl (some 6)), .inr (.inl (some 7)), .inl (false, ((.ofNat 0), [(2, (.ofNat 1))])), .inr (.inl (some 8)), .inl (false, ((.ofNat 0), [(3, (.ofNat 1))])), .inr (.inl (some 9)), .inr (.inl (some 10)), .inr (.inl (some 11)), .inr (.inl (some 12)), .inl (false, ((.ofNat 0), [(4, (.ofNat 1))])), .inl (false, ((.ofNat 0), [(5, (.ofNat 1))])), .inl (false, ((.ofNat 0), [(6, (.ofNat 1))])), .inr (.inl (some 13)), .inl (false, ((.ofNat 0), [(7, (.ofNat 1))])), .inl (false, ((.ofNat 0), [(8, (.ofNat 1))])), .inl (false, ((.ofNat 0), [(9, (.ofNat 1))])), .inr (.inl (some 14))])
def zc267 : AC := .inl (12, [.inr (.inl (some 1)), .inr (.inl (some 2)), .inr (.inl (some 3)), .inl (false, ((.negSucc 18), [(0, (.ofNat 1)), (1, (.ofNat 1))])), .inr (.inl (some 4)), .inr (.inl (some 5)), .inl (false, ((.ofNat 19), [])), .inr (.inl (some 6)), .inr (.inl (some 7)), .inl (false, ((.ofNat 0), [(2, (.ofNat 1))])), .inr (.inl (some 8)), .inl (false, ((.ofNat 0), [(3, (.ofNat 1))])), .inr (.inl (some 9)), .inr (.inl (some 10)), .inr (.inl (some 11)), .inr (.inl (some 12)), .inl (false, ((.ofNat 0), [(4, (.ofNat 1))])), .inl (false, ((.ofNat 0), [(5, (.ofNat 1))])), .inl (false, ((.ofNat 0), [(6, (.ofNat 1))])), .inr (.inl (some 13)), .inl (false, ((.ofNat 0), [(7, (.ofNat 1))])), .inl (false, ((.ofNat 0), [(8, (.ofNat 1))])), .inl (false, ((.ofNat 0), [(9, (.ofNat 1))])), .inr (.inl (some 14))])
def zc268 : AC := .inl (12, [.inr (.inl (some 1)), .inr (.inl (some 2)), .inr (.inl (some 3)), .inl (false, ((.negSucc 1), [(0, (.ofNat 1)), (1, (.ofNat 1))])), .inr (.inl (some 4)), .inr (.inl (some 5)), .inl (false, ((.ofNat 2), [])), .inr (.inl (some 6)), .inr (.inl (some 7)), .inl (false, ((.ofNat 0), [(2, (.ofNat 1))])), .inr (.inl (some 8)), .inl (false, ((.ofNat 0), [(3, (.ofNat 1))])), .inr (.inl (some 9)), .inr (.inl (some 10)), .inr (.inl (some 11)), .inr (.inl (some 12)), .inl (false, ((.ofNat 0), [(4, (.ofNat 1))])), .inl (false, ((.ofNat 0), [(5, (.ofNat 1))])), .inl (false, ((.ofNat 0), [(6, (.ofNat 1))])), .inr (.inl (some 13)), .inl (false, ((.ofNat 0), [(7, (.ofNat 1))])), .inl (false, ((.ofNat 0), [(8, (.ofNat 1))])), .inl (false, ((.ofNat 0), [(9, (.ofNat 1))])), .inr (.inl (some 14))])
def zc269 : AC := .inl (12, [.inr (.inl (some 1)), .inr (.inl (some 2)), .inr (.inl (some 3)), .inl (false, ((.negSucc 19), [(0, (.ofNat 1)), (1, (.ofNat 1))])), .inr (.inl (some 4)), .inr (.inl (some 5)), .inl (false, ((.ofNat 20), [])), .inr (.inl (some 6)), .inr (.inl (some 7)), .inl (false, ((.ofNat 0), [(2, (.ofNat 1))])), .inr (.inl (some 8)), .inl (false, ((.ofNat 0), [(3, (.ofNat 1))])), .inr (.inl (some 9)), .inr (.inl (some 10)), .inr (.inl (some 11)), .inr (.inl (some 12)), .inl (false, ((.ofNat 0), [(4, (.ofNat 1))])), .inl (false, ((.ofNat 0), [(5, (.ofNat 1))])), .inl (false, ((.ofNat 0), [(6, (.ofNat 1))])), .inr (.inl (some 13)), .inl (false, ((.ofNat 0), [(7, (.ofNat 1))])), .inl (false, ((.ofNat 0), [(8, (.ofNat 1))])), .inl (false, ((.ofNat 0), [(9, (.ofNat 1))])), .inr (.inl (some 14))])
def zc270 : AC := .inl (12, [.inr (.inl (some 1)), .inr (.inl (some 2)), .inr (.inl (some 3)), .inl (false, ((.negSucc 20), [(0, (.ofNat 1)), (1, (.ofNat 1))])), .inr (.inl (some 4)), .inr (.inl (some 5)), .inl (false, ((.ofNat 21), [])), .inr (.inl (some 6)), .inr (.inl (some 7)), .inl (false, ((.ofNat 0), [(2, (.ofNat 1))])), .inr (.inl (some 8)), .inl (false, ((.ofNat 0), [(3, (.ofNat 1))])), .inr (.inl (some 9)), .inr (.inl (some 10)), .inr (.inl (some 11)), .inr (.inl (some 12)), .inl (false, ((.ofNat 0), [(4, (.ofNat 1))])), .inl (false, ((.ofNat 0), [(5, (.ofNat 1))])), .inl (false, ((.ofNat 0), [(6, (.ofNat 1))])), .inr (.inl (some 13)), .inl (false, ((.ofNat 0), [(7, (.ofNat 1))])), .inl (false, ((.ofNat 0), [(8, (.ofNat 1))])), .inl (false, ((.ofNat 0), [(9, (.ofNat 1))])), .inr (.inl (some 14))])
def zc271 : AC := .inl (12, [.inr (.inl (some 1)), .inr (.inl (some 2)), .inr (.inl (some 3)), .inl (false, ((.negSucc 21), [(0, (.ofNat 1)), (1, (.ofNat 1))])), .inr (.inl (some 4)), .inr (.inl (some 5)), .inl (false, ((.ofNat 22), [])), .inr (.inl (some 6)), .inr (.inl (some 7)), .inl (false, ((.ofNat 0), [(2, (.ofNat 1))])), .inr (.inl (some 8)), .inl (false, ((.ofNat 0), [(3, (.ofNat 1))])), .inr (.inl (some 9)), .inr (.inl (some 10)), .inr (.inl (some 11)), .inr (.inl (some 12)), .inl (false, ((.ofNat 0), [(4, (.ofNat 1))])), .inl (false, ((.ofNat 0), [(5, (.ofNat 1))])), .inl (false, ((.ofNat 0), [(6, (.ofNat 1))])), .inr (.inl (some 13)), .inl (false, ((.ofNat 0), [(7, (.ofNat 1))])), .inl (false, ((.ofNat 0), [(8, (.ofNat 1))])), .inl (false, ((.ofNat 0), [(9, (.ofNat 1))])), .inr (.inl (some 14))])
def zc272 : AC := .inl (12, [.inr (.inl (some 1)), .inr (.inl (some 2)), .inr (.inl (some 3)), .inl (false, ((.negSucc 22), [(0, (.ofNat 1)), (1, (.ofNat 1))])), .inr (.inl (some 4)), .inr (.inl (some 5)), .inl (false, ((.ofNat 23), [])), .inr (.inl (some 6)), .inr (.inl (some 7)), .inl (false, ((.ofNat 0), [(2, (.ofNat 1))])), .inr (.inl (some 8)), .inl (false, ((.ofNat 0), [(3, (.ofNat 1))])), .inr (.inl (some 9)), .inr (.inl (some 10)), .inr (.inl (some 11)), .inr (.inl (some 12)), .inl (false, ((.ofNat 0), [(4, (.ofNat 1))])), .inl (false, ((.ofNat 0), [(5, (.ofNat 1))])), .inl (false, ((.ofNat 0), [(6, (.ofNat 1))])), .inr (.inl (some 13)), .inl (false, ((.ofNat 0), [(7, (.ofNat 1))])), .inl (false, ((.ofNat 0), [(8, (.ofNat 1))])), .inl (false, ((.ofNat 0), [(9, (.ofNat 1))])), .inr (.inl (some 14))])
def zc273 : AC := .inl (12, [.inr (.inl (some 1)), .inr (.inl (some 2)), .inr (.inl (some 3)), .inl (false, ((.negSucc 23), [(0, (.ofNat 1)), (1, (.ofNat 1))])), .inr (.inl (some 4)), .inr (.inl (some 5)), .inl (false, ((.ofNat 24), [])), .inr (.inl (some 6)), .inr (.inl (some 7)), .inl (false, ((.ofNat 0), [(2, (.ofNat 1))])), .inr (.inl (some 8)), .inl (false, ((.ofNat 0), [(3, (.ofNat 1))])), .inr (.inl (some 9)), .inr (.inl (some 10)), .inr (.inl (some 11)), .inr (.inl (some 12)), .inl (false, ((.ofNat 0), [(4, (.ofNat 1))])), .inl (false, ((.ofNat 0), [(5, (.ofNat 1))])), .inl (false, ((.ofNat 0), [(6, (.ofNat 1))])), .inr (.inl (some 13)), .inl (false, ((.ofNat 0), [(7, (.ofNat 1))])), .inl (false, ((.ofNat 0), [(8, (.ofNat 1))])), .inl (false, ((.ofNat 0), [(9, (.ofNat 1))])), .inr (.inl (some 14))])
def zc274 : AC := .inl (12, [.inr (.inl (some 1)), .inr (.inl (some 2)), .inr (.inl (some 3)), .inl (false, ((.negSucc 24), [(0, (.ofNat 1)), (1, (.ofNat 1))])), .inr (.inl (some 4)), .inr (.inl (some 5)), .inl (false, ((.ofNat 25), [])), .inr (.inl (some 6)), .inr (.inl (some 7)), .inl (false, ((.ofNat 0), [(2, (.ofNat 1))])), .inr (.inl (some 8)), .inl (false, ((.ofNat 0), [(3, (.ofNat 1))])), .inr (.inl (some 9)), .inr (.inl (some 10)), .inr (.inl (some 11)), .inr (.inl (some 12)), .inl (false, ((.ofNat 0), [(4, (.ofNat 1))])), .inl (false, ((.ofNat 0), [(5, (.ofNat 1))])), .inl (false, ((.ofNat 0), [(6, (.ofNat 1))])), .inr (.inl (some 13)), .inl (false, ((.ofNat 0), [(7, (.ofNat 1))])), .inl (false, ((.ofNat 0), [(8, (.ofNat 1))])), .inl (false, ((.ofNat 0), [(9, (.ofNat 1))])), .inr (.inl (some 14))])
def zc275 : AC := .inl (12, [.inr (.inl (some 1)), .inr (.inl (some 2)), .inr (.inl (some 3)), .inl (false, ((.negSucc 25), [(0, (.ofNat 1)), (1, (.ofNat 1))])), .inr (.inl (some 4)), .inr (.inl (some 5)), .inl (false, ((.ofNat 26), [])), .inr (.inl (some 6)), .inr (.inl (some 7)), .inl (false, ((.ofNat 0), [(2, (.ofNat 1))])), .inr (.inl (some 8)), .inl (false, ((.ofNat 0), [(3, (.ofNat 1))])), .inr (.inl (some 9)), .inr (.inl (some 10)), .inr (.inl (some 11)), .inr (.inl (some 12)), .inl (false, ((.ofNat 0), [(4, (.ofNat 1))])), .inl (false, ((.ofNat 0), [(5, (.ofNat 1))])), .inl (false, ((.ofNat 0), [(6, (.ofNat 1))])), .inr (.inl (some 13)), .inl (false, ((.ofNat 0), [(7, (.ofNat 1))])), .inl (false, ((.ofNat 0), [(8, (.ofNat 1))])), .inl (false, ((.ofNat 0), [(9, (.ofNat 1))])), .inr (.inl (some 14))])
def zc276 : AC := .inl (12, [.inr (.inl (some 1)), .inr (.inl (some 2)), .inr (.inl (some 3)), .inl (false, ((.negSucc 26), [(0, (.ofNat 1)), (1, (.ofNat 1))])), .inr (.inl (some 4)), .inr (.inl (some 5)), .inl (false, ((.ofNat 27), [])), .inr (.inl (some 6)), .inr (.inl (some 7)), .inl (false, ((.ofNat 0), [(2, (.ofNat 1))])), .inr (.inl (some 8)), .inl (false, ((.ofNat 0), [(3, (.ofNat 1))])), .inr (.inl (some 9)), .inr (.inl (some 10)), .inr (.inl (some 11)), .inr (.inl (some 12)), .inl (false, ((.ofNat 0), [(4, (.ofNat 1))])), .inl (false, ((.ofNat 0), [(5, (.ofNat 1))])), .inl (false, ((.ofNat 0), [(6, (.ofNat 1))])), .inr (.inl (some 13)), .inl (false, ((.ofNat 0), [(7, (.ofNat 1))])), .inl (false, ((.ofNat 0), [(8, (.ofNat 1))])), .inl (false, ((.ofNat 0), [(9, (.ofNat 1))])), .inr (.inl (some 14))])
def zc277 : AC := .inl (12, [.inr (.inl (some 1)), .inr (.inl (some 2)), .inr (.inl (some 3)), .inl (false, ((.negSucc 27), [(0, (.ofNat 1)), (1, (.ofNat 1))])), .inr (.inl (some 4)), .inr (.inl (some 5)), .inl (false, ((.ofNat 28), [])), .inr (.inl (some 6)), .inr (.inl (some 7)), .inl (false, ((.ofNat 0), [(2, (.ofNat 1))])), .inr (.inl (some 8)), .inl (false, ((.ofNat 0), [(3, (.ofNat 1))])), .inr (.inl (some 9)), .inr (.inl (some 10)), .inr (.inl (some 11)), .inr (.inl (some 12)), .inl (false, ((.ofNat 0), [(4, (.ofNat 1))])), .inl (false, ((.ofNat 0), [(5, (.ofNat 1))])), .inl (false, ((.ofNat 0), [(6, (.ofNat 1))])), .inr (.inl (some 13)), .inl (false, ((.ofNat 0), [(7, (.ofNat 1))])), .inl (false, ((.ofNat 0), [(8, (.ofNat 1))])), .inl (false, ((.ofNat 0), [(9, (.ofNat 1))])), .inr (.inl (some 14))])
def zc278 : AC := .inl (12, [.inr (.inl (some 1)), .inr (.inl (some 2)), .inr (.inl (some 3)), .inl (false, ((.negSucc 28), [(0, (.ofNat 1)), (1, (.ofNat 1))])), .inr (.inl (some 4)), .inr (.inl (some 5)), .inl (false, ((.ofNat 29), [])), .inr (.inl (some 6)), .inr (.inl (some 7)), .inl (false, ((.ofNat 0), [(2, (.ofNat 1))])), .inr (.inl (some 8)), .inl (false, ((.ofNat 0), [(3, (.ofNat 1))])), .inr (.inl (some 9)), .inr (.inl (some 10)), .inr (.inl (some 11)), .inr (.inl (some 12)), .inl (false, ((.ofNat 0), [(4, (.ofNat 1))])), .inl (false, ((.ofNat 0), [(5, (.ofNat 1))])), .inl (false, ((.ofNat 0), [(6, (.ofNat 1))])), .inr (.inl (some 13)), .inl (false, ((.ofNat 0), [(7, (.ofNat 1))])), .inl (false, ((.ofNat 0), [(8, (.ofNat 1))])), .inl (false, ((.ofNat 0), [(9, (.ofNat 1))])), .inr (.inl (some 14))])
def zc279 : AC := .inl (12, [.inr (.inl (some 1)), .inr (.inl (some 2)), .inr (.inl (some 3)), .inl (false, ((.negSucc 2), [(0, (.ofNat 1)), (1, (.ofNat 1))])), .inr (.inl (some 4)), .inr (.inl (some 5)), .inl (false, ((.ofNat 3), [])), .inr (.inl (some 6)), .inr (.inl (some 7)), .inl (false, ((.ofNat 0), [(2, (.ofNat 1))])), .inr (.inl (some 8)), .inl (false, ((.ofNat 0), [(3, (.ofNat 1))])), .inr (.inl (some 9)), .inr (.inl (some 10)), .inr (.inl (some 11)), .inr (.inl (some 12)), .inl (false, ((.ofNat 0), [(4, (.ofNat 1))])), .inl (false, ((.ofNat 0), [(5, (.ofNat 1))])), .inl (false, ((.ofNat 0), [(6, (.ofNat 1))])), .inr (.inl (some 13)), .inl (false, ((.ofNat 0), [(7, (.ofNat 1))])), .inl (false, ((.ofNat 0), [(8, (.ofNat 1))])), .inl (false, ((.ofNat 0), [(9, (.ofNat 1))])), .inr (.inl (some 14))])
def zc280 : AC := .inl (12, [.inr (.inl (some 1)), .inr (.inl (some 2)), .inr (.inl (some 3)), .inl (false, ((.negSucc 29), [(0, (.ofNat 1)), (1, (.ofNat 1))])), .inr (.inl (some 4)), .inr (.inl (some 5)), .inl (false, ((.ofNat 30), [])), .inr (.inl (some 6)), .inr (.inl (some 7)), .inl (false, ((.ofNat 0), [(2, (.ofNat 1))])), .inr (.inl (some 8)), .inl (false, ((.ofNat 0), [(3, (.ofNat 1))])), .inr (.inl (some 9)), .inr (.inl (some 10)), .inr (.inl (some 11)), .inr (.inl (some 12)), .inl (false, ((.ofNat 0), [(4, (.ofNat 1))])), .inl (false, ((.ofNat 0), [(5, (.ofNat 1))])), .inl (false, ((.ofNat 0), [(6, (.ofNat 1))])), .inr (.inl (some 13)), .inl (false, ((.ofNat 0), [(7, (.ofNat 1))])), .inl (false, ((.ofNat 0), [(8, (.ofNat 1))])), .inl (false, ((.ofNat 0), [(9, (.ofNat 1))])), .inr (.inl (some 14))])
def zc281 : AC := .inl (12, [.inr (.inl (some 1)), .inr (.inl (some 2)), .inr (.inl (some 3)), .inl (false, ((.negSucc 30), [(0, (.ofNat 1)), (1, (.ofNat 1))])), .inr (.inl (some 4)), .inr (.inl (some 5)), .inl (false, ((.ofNat 31), [])), .inr (.inl (some 6)), .inr (.inl (some 7)), .inl (false, ((.ofNat 0), [(2, (.ofNat 1))])), .inr (.inl (some 8)), .inl (false, ((.ofNat 0), [(3, (.ofNat 1))])), .inr (.inl (some 9)), .inr (.inl (some 10)), .inr (.inl (some 11)), .inr (.inl (some 12)), .inl (false, ((.ofNat 0), [(4, (.ofNat 1))])), .inl (false, ((.ofNat 0), [(5, (.ofNat 1))])), .inl (false, ((.ofNat 0), [(6, (.ofNat 1))])), .inr (.inl (some 13)), .inl (false, ((.ofNat 0), [(7, (.ofNat 1))])), .inl (false, ((.ofNat 0), [(8, (.ofNat 1))])), .inl (false, ((.ofNat 0), [(9, (.ofNat 1))])), .inr (.inl (some 14))])
def zc282 : AC := .inl (12, [.inr (.inl (some 1)), .inr (.inl (some 2)), .inr (.inl (some 3)), .inl (false, ((.negSucc 31), [(0, (.ofNat 1)), (1, (.ofNat 1))])), .inr (.inl (some 4)), .inr (.inl (some 5)), .inl (false, ((.ofNat 32), [])), .inr (.inl (some 6)), .inr (.inl (some 7)), .inl (false, ((.ofNat 0), [(2, (.ofNat 1))])), .inr (.inl (some 8)), .inl (false, ((.ofNat 0), [(3, (.ofNat 1))])), .inr (.inl (some 9)), .inr (.inl (some 10)), .inr (.inl (some 11)), .inr (.inl (some 12)), .inl (false, ((.ofNat 0), [(4, (.ofNat 1))])), .inl (false, ((.ofNat 0), [(5, (.ofNat 1))])), .inl (false, ((.ofNat 0), [(6, (.ofNat 1))])), .inr (.inl (some 13)), .inl (false, ((.ofNat 0), [(7, (.ofNat 1))])), .inl (false, ((.ofNat 0), [(8, (.ofNat 1))])), .inl (false, ((.ofNat 0), [(9, (.ofNat 1))])), .inr (.inl (some 14))])
def zc283 : AC := .inl (12, [.inr (.inl (some 1)), .inr (.inl (some 2)), .inr (.inl (some 3)), .inl (false, ((.negSucc 32), [(0, (.ofNat 1)), (1, (.ofNat 1))])), .inr (.inl (some 4)), .inr (.inl (some 5)), .inl (false, ((.ofNat 33), [])), .inr (.inl (some 6)), .inr (.inl (some 7)), .inl (false, ((.ofNat 0), [(2, (.ofNat 1))])), .inr (.inl (some 8)), .inl (false, ((.ofNat 0), [(3, (.ofNat 1))])), .inr (.inl (some 9)), .inr (.inl (some 10)), .inr (.inl (some 11)), .inr (.inl (some 12)), .inl (false, ((.ofNat 0), [(4, (.ofNat 1))])), .inl (false, ((.ofNat 0), [(5, (.ofNat 1))])), .inl (false, ((.ofNat 0), [(6, (.ofNat 1))])), .inr (.inl (some 13)), .inl (false, ((.ofNat 0), [(7, (.ofNat 1))])), .inl (false, ((.ofNat 0), [(8, (.ofNat 1))])), .inl (false, ((.ofNat 0), [(9, (.ofNat 1))])), .inr (.inl (some 14))])
def zc284 : AC := .inl (12, [.inr (.inl (some 1)), .inr (.inl (some 2)), .inr (.inl (some 3)), .inl (false, ((.negSucc 33), [(0, (.ofNat 1)), (1, (.ofNat 1))])), .inr (.inl (some 4)), .inr (.inl (some 5)), .inl (false, ((.ofNat 34), [])), .inr (.inl (some 6)), .inr (.inl (some 7)), .inl (false, ((.ofNat 0), [(2, (.ofNat 1))])), .inr (.inl (some 8)), .inl (false, ((.ofNat 0), [(3, (.ofNat 1))])), .inr (.inl (some 9)), .inr (.inl (some 10)), .inr (.inl (some 11)), .inr (.inl (some 12)), .inl (false, ((.ofNat 0), [(4, (.ofNat 1))])), .inl (false, ((.ofNat 0), [(5, (.ofNat 1))])), .inl (false, ((.ofNat 0), [(6, (.ofNat 1))])), .inr (.inl (some 13)), .inl (false, ((.ofNat 0), [(7, (.ofNat 1))])), .inl (false, ((.ofNat 0), [(8, (.ofNat 1))])), .inl (false, ((.ofNat 0), [(9, (.ofNat 1))])), .inr (.inl (some 14))])
def zc285 : AC := .inl (12, [.inr (.inl (some 1)), .inr (.inl (some 2)), .inr (.inl (some 3)), .inl (false, ((.negSucc 34), [(0, (.ofNat 1)), (1, (.ofNat 1))])), .inr (.inl (some 4)), .inr (.inl (some 5)), .inl (false, ((.ofNat 35), [])), .inr (.inl (some 6)), .inr (.inl (some 7)), .inl (false, ((.ofNat 0), [(2, (.ofNat 1))])), .inr (.inl (some 8)), .inl (false, ((.ofNat 0), [(3, (.ofNat 1))])), .inr (.inl (some 9)), .inr (.inl (some 10)), .inr (.inl (some 11)), .inr (.inl (some 12)), .inl (false, ((.ofNat 0), [(4, (.ofNat 1))])), .inl (false, ((.ofNat 0), [(5, (.ofNat 1))])), .inl (false, ((.ofNat 0), [(6, (.ofNat 1))])), .inr (.inl (some 13)), .inl (false, ((.ofNat 0), [(7, (.ofNat 1))])), .inl (false, ((.ofNat 0), [(8, (.ofNat 1))])), .inl (false, ((.ofNat 0), [(9, (.ofNat 1))])), .inr (.inl (some 14))])
def zc286 : AC := .inl (12, [.inr (.inl (some 1)), .inr (.inl (some 2)), .inr (.inl (some 3)), .inl (false, ((.negSucc 35), [(0, (.ofNat 1)), (1, (.ofNat 1))])), .inr (.inl (some 4)), .inr (.inl (some 5)), .inl (false, ((.ofNat 36), [])), .inr (.inl (some 6)), .inr (.inl (some 7)), .inl (false, ((.ofNat 0), [(2, (.ofNat 1))])), .inr (.inl (some 8)), .inl (false, ((.ofNat 0), [(3, (.ofNat 1))])), .inr (.inl (some 9)), .inr (.inl (some 10)), .inr (.inl (some 11)), .inr (.inl (some 12)), .inl (false, ((.ofNat 0), [(4, (.ofNat 1))])), .inl (false, ((.ofNat 0), [(5, (.ofNat 1))])), .inl (false, ((.ofNat 0), [(6, (.ofNat 1))])), .inr (.inl (some 13)), .inl (false, ((.ofNat 0), [(7, (.ofNat 1))])), .inl (false, ((.ofNat 0), [(8, (.ofNat 1))])), .inl (false, ((.ofNat 0), [(9, (.ofNat 1))])), .inr (.inl (some 14))])
def zc287 : AC := .inl (12, [.inr (.inl (some 1)), .inr (.inl (some 2)), .inr (.inl (some 3)), .inl (false, ((.negSucc 36), [(0, (.ofNat 1)), (1, (.ofNat 1))])), .inr (.inl (some 4)), .inr (.inl (some 5)), .inl (false, ((.ofNat 37), [])), .inr (.inl (some 6)), .inr (.inl (some 7)), .inl (false, ((.ofNat 0), [(2, (.ofNat 1))])), .inr (.inl (some 8)), .inl (false, ((.ofNat 0), [(3, (.ofNat 1))])), .inr (.inl (some 9)), .inr (.inl (some 10)), .inr (.inl (some 11)), .inr (.inl (some 12)), .inl (false, ((.ofNat 0), [(4, (.ofNat 1))])), .inl (false, ((.ofNat 0), [(5, (.ofNat 1))])), .inl (false, ((.ofNat 0), [(6, (.ofNat 1))])), .inr (.inl (some 13)), .inl (false, ((.ofNat 0), [(7, (.ofNat 1))])), .inl (false, ((.ofNat 0), [(8, (.ofNat 1))])), .inl (false, ((.ofNat 0), [(9, (.ofNat 1))])), .inr (.inl (some 14))])
def zc288 : AC := .inl (12, [.inr (.inl (some 1)), .inr (.inl (some 2)), .inr (.inl (some 3)), .inl (false, ((.negSucc 37), [(0, (.ofNat 1)), (1, (.ofNat 1))])), .inr (.inl (some 4)), .inr (.inl (some 5)), .inl (false, ((.ofNat 38), [])), .inr (.inl (some 6)), .inr (.inl (some 7)), .inl (false, ((.ofNat 0), [(2, (.ofNat 1))])), .inr (.inl (some 8)), .inl (false, ((.ofNat 0), [(3, (.ofNat 1))])), .inr (.inl (some 9)), .inr (.inl (some 10)), .inr (.inl (some 11)), .inr (.inl (some 12)), .inl (false, ((.ofNat 0), [(4, (.ofNat 1))])), .inl (false, ((.ofNat 0), [(5, (.ofNat 1))])), .inl (false, ((.ofNat 0), [(6, (.ofNat 1))])), .inr (.inl (some 13)), .inl (false, ((.ofNat 0), [(7, (.ofNat 1))])), .inl (false, ((.ofNat 0), [(8, (.ofNat 1))])), .inl (false, ((.ofNat 0), [(9, (.ofNat 1))])), .inr (.inl (some 14))])
def zc289 : AC := .inl (12, [.inr (.inl (some 1)), .inr (.inl (some 2)), .inr (.inl (some 3)), .inl (false, ((.negSucc 38), [(0, (.ofNat 1)), (1, (.ofNat 1))])), .inr (.inl (some 4)), .inr (.inl (some 5)), .inl (false, ((.ofNat 39), [])), .inr (.inl (some 6)), .inr (.inl (some 7)), .inl (false, ((.ofNat 0), [(2, (.ofNat 1))])), .inr (.inl (some 8)), .inl (false, ((.ofNat 0), [(3, (.ofNat 1))])), .inr (.inl (some 9)), .inr (.inl (some 10)), .inr (.inl (some 11)), .inr (.inl (some 12)), .inl (false, ((.ofNat 0), [(4, (.ofNat 1))])), .inl (false, ((.ofNat 0), [(5, (.ofNat 1))])), .inl (false, ((.ofNat 0), [(6, (.ofNat 1))])), .inr (.inl (some 13)), .inl (false, ((.ofNat 0), [(7, (.ofNat 1))])), .inl (false, ((.ofNat 0), [(8, (.ofNat 1))])), .inl (false, ((.ofNat 0), [(9, (.ofNat 1))])), .inr (.inl (some 14))])
def zc290 : AC := .inl (12, [.inr (.inl (some 1)), .inr (.inl (some 2)), .inr (.inl (some 3)), .inl (false, ((.negSucc 3), [(0, (.ofNat 1)), (1, (.ofNat 1))])), .inr (.inl (some 4)), .inr (.inl (some 5)), .inl (false, ((.ofNat 4), [])), .inr (.inl (some 6)), .inr (.inl (some 7)), .inl (false, ((.ofNat 0), [(2, (.ofNat 1))])), .inr (.inl (some 8)), .inl (false, ((.ofNat 0), [(3, (.ofNat 1))])), .inr (.inl (some 9)), .inr (.inl (some 10)), .inr (.inl (some 11)), .inr (.inl (some 12)), .inl (false, ((.ofNat 0), [(4, (.ofNat 1))])), .inl (false, ((.ofNat 0), [(5, (.ofNat 1))])), .inl (false, ((.ofNat 0), [(6, (.ofNat 1))])), .inr (.inl (some 13)), .inl (false, ((.ofNat 0), [(7, (.ofNat 1))])), .inl (false, ((.ofNat 0), [(8, (.ofNat 1))])), .inl (false, ((.ofNat 0), [(9, (.ofNat 1))])), .inr (.inl (some 14))])
def zc291 : AC := .inl (12, [.inr (.inl (some 1)), .inr (.inl (some 2)), .inr (.inl (some 3)), .inl (false, ((.negSucc 39), [(0, (.ofNat 1)), (1, (.ofNat 1))])), .inr (.inl (some 4)), .inr (.inl (some 5)), .inl (false, ((.ofNat 40), [])), .inr (.inl (some 6)), .inr (.inl (some 7)), .inl (false, ((.ofNat 0), [(2, (.ofNat 1))])), .inr (.inl (some 8)), .inl (false, ((.ofNat 0), [(3, (.ofNat 1))])), .inr (.inl (some 9)), .inr (.inl (some 10)), .inr (.inl (some 11)), .inr (.inl (some 12)), .inl (false, ((.ofNat 0), [(4, (.ofNat 1))])), .inl (false, ((.ofNat 0), [(5, (.ofNat 1))])), .inl (false, ((.ofNat 0), [(6, (.ofNat 1))])), .inr (.inl (some 13)), .inl (false, ((.ofNat 0), [(7, (.ofNat 1))])), .inl (false, ((.ofNat 0), [(8, (.ofNat 1))])), .inl (false, ((.ofNat 0), [(9, (.ofNat 1))])), .inr (.inl (some 14))])
def zc292 : AC := .inl (12, [.inr (.inl (some 1)), .inr (.inl (some 2)), .inr (.inl (some 3)), .inl (false, ((.negSucc 40), [(0, (.ofNat 1)), (1, (.ofNat 1))])), .inr (.inl (some 4)), .inr (.inl (some 5)), .inl (false, ((.ofNat 41), [])), .inr (.inl (some 6)), .inr (.inl (some 7)), .inl (false, ((.ofNat 0), [(2, (.ofNat 1))])), .inr (.inl (some 8)), .inl (false, ((.ofNat 0), [(3, (.ofNat 1))])), .inr (.inl (some 9)), .inr (.inl (some 10)), .inr (.inl (some 11)), .inr (.inl (some 12)), .inl (false, ((.ofNat 0), [(4, (.ofNat 1))])), .inl (false, ((.ofNat 0), [(5, (.ofNat 1))])), .inl (false, ((.ofNat 0), [(6, (.ofNat 1))])), .inr (.inl (some 13)), .inl (false, ((.ofNat 0), [(7, (.ofNat 1))])), .inl (false, ((.ofNat 0), [(8, (.ofNat 1))])), .inl (false, ((.ofNat 0), [(9, (.ofNat 1))])), .inr (.inl (some 14))])
def zc293 : AC := .inl (12, [.inr (.inl (some 1)), .inr (.inl (some 2)), .inr (.inl (some 3)), .inl (false, ((.negSucc 41), [(0, (.ofNat 1)), (1, (.ofNat 1))])), .inr (.inl (some 4)), .inr (.inl (some 5)), .inl (false, ((.ofNat 42), [])), .inr (.inl (some 6)), .inr (.inl (some 7)), .inl (false, ((.ofNat 0), [(2, (.ofNat 1))])), .inr (.inl (some 8)), .inl (false, ((.ofNat 0), [(3, (.ofNat 1))])), .inr (.inl (some 9)), .inr (.inl (some 10)), .inr (.inl (some 11)), .inr (.inl (some 12)), .inl (false, ((.ofNat 0), [(4, (.ofNat 1))])), .inl (false, ((.ofNat 0), [(5, (.ofNat 1))])), .inl (false, ((.ofNat 0), [(6, (.ofNat 1))])), .inr (.inl (some 13)), .inl (false, ((.ofNat 0), [(7, (.ofNat 1))])), .inl (false, ((.ofNat 0), [(8, (.ofNat 1))])), .inl (false, ((.ofNat 0), [(9, (.ofNat 1))])), .inr (.inl (some 14))])
def zc294 : AC := .inl (12, [.inr (.inl (some 1)), .inr (.inl (some 2)), .inr (.inl (some 3)), .inl (false, ((.negSucc 42), [(0, (.ofNat 1)), (1, (.ofNat 1))])), .inr (.inl (some 4)), .inr (.inl (some 5)), .inl (false, ((.ofNat 43), [])), .inr (.inl (some 6)), .inr (.inl (some 7)), .inl (false, ((.ofNat 0), [(2, (.ofNat 1))])), .inr (.inl (some 8)), .inl (false, ((.ofNat 0), [(3, (.ofNat 1))])), .inr (.inl (some 9)), .inr (.inl (some 10)), .inr (.inl (some 11)), .inr (.inl (some 12)), .inl (false, ((.ofNat 0), [(4, (.ofNat 1))])), .inl (false, ((.ofNat 0), [(5, (.ofNat 1))])), .inl (false, ((.ofNat 0), [(6, (.ofNat 1))])), .inr (.inl (some 13)), .inl (false, ((.ofNat 0), [(7, (.ofNat 1))])), .inl (false, ((.ofNat 0), [(8, (.ofNat 1))])), .inl (false, ((.ofNat 0), [(9, (.ofNat 1))])), .inr (.inl (some 14))])
def zc295 : AC := .inl (12, [.inr (.inl (some 1)), .inr (.inl (some 2)), .inr (.inl (some 3)), .inl (false, ((.negSucc 43), [(0, (.ofNat 1)), (1, (.ofNat 1))])), .inr (.inl (some 4)), .inr (.inl (some 5)), .inl (false, ((.ofNat 44), [])), .inr (.inl (some 6)), .inr (.inl (some 7)), .inl (false, ((.ofNat 0), [(2, (.ofNat 1))])), .inr (.inl (some 8)), .inl (false, ((.ofNat 0), [(3, (.ofNat 1))])), .inr (.inl (some 9)), .inr (.inl (some 10)), .inr (.inl (some 11)), .inr (.inl (some 12)), .inl (false, ((.ofNat 0), [(4, (.ofNat 1))])), .inl (false, ((.ofNat 0), [(5, (.ofNat 1))])), .inl (false, ((.ofNat 0), [(6, (.ofNat 1))])), .inr (.inl (some 13)), .inl (false, ((.ofNat 0), [(7, (.ofNat 1))])), .inl (false, ((.ofNat 0), [(8, (.ofNat 1))])), .inl (false, ((.ofNat 0), [(9, (.ofNat 1))])), .inr (.inl (some 14))])
def zc296 : AC := .inl (12, [.inr (.inl (some 1)), .inr (.inl (some 2)), .inr (.inl (some 3)), .inl (false, ((.negSucc 44), [(0, (.ofNat 1)), (1, (.ofNat 1))])), .inr (.inl (some 4)), .inr (.inl (some 5)), .inl (false, ((.ofNat 45), [])), .inr (.inl (some 6)), .inr (.inl (some 7)), .inl (false, ((.ofNat 0), [(2, (.ofNat 1))])), .inr (.inl (some 8)), .inl (false, ((.ofNat 0), [(3, (.ofNat 1))])), .inr (.inl (some 9)), .inr (.inl (some 10)), .inr (.inl (some 11)), .inr (.inl (some 12)), .inl (false, ((.ofNat 0), [(4, (.ofNat 1))])), .inl (false, ((.ofNat 0), [(5, (.ofNat 1))])), .inl (false, ((.ofNat 0), [(6, (.ofNat 1))])), .inr (.inl (some 13)), .inl (false, ((.ofNat 0), [(7, (.ofNat 1))])), .inl (false, ((.ofNat 0), [(8, (.ofNat 1))])), .inl (false, ((.ofNat 0), [(9, (.ofNat 1))])), .inr (.inl (some 14))])
def zc297 : AC := .inl (12, [.inr (.inl (some 1)), .inr (.inl (some 2)), .inr (.inl (some 3)), .inl (false, ((.negSucc 45), [(0, (.ofNat 1)), (1, (.ofNat 1))])), .inr (.inl (some 4)), .inr (.inl (some 5)), .inl (false, ((.ofNat 46), [])), .inr (.inl (some 6)), .inr (.inl (some 7)), .inl (false, ((.ofNat 0), [(2, (.ofNat 1))])), .inr (.inl (some 8)), .inl (false, ((.ofNat 0), [(3, (.ofNat 1))])), .inr (.inl (some 9)), .inr (.inl (some 10)), .inr (.inl (some 11)), .inr (.inl (some 12)), .inl (false, ((.ofNat 0), [(4, (.ofNat 1))])), .inl (false, ((.ofNat 0), [(5, (.ofNat 1))])), .inl (false, ((.ofNat 0), [(6, (.ofNat 1))])), .inr (.inl (some 13)), .inl (false, ((.ofNat 0), [(7, (.ofNat 1))])), .inl (false, ((.ofNat 0), [(8, (.ofNat 1))])), .inl (false, ((.ofNat 0), [(9, (.ofNat 1))])), .inr (.inl (some 14))])
def zc298 : AC := .inl (12, [.inr (.inl (some 1)), .inr (.inl (some 2)), .inr (.inl (some 3)), .inl (false, ((.negSucc 46), [(0, (.ofNat 1)), (1, (.ofNat 1))])), .inr (.inl (some 4)), .inr (.inl (some 5)), .inl (false, ((.ofNat 47), [])), .inr (.inl (some 6)), .inr (.inl (some 7)), .inl (false, ((.ofNat 0), [(2, (.ofNat 1))])), .inr (.inl (some 8)), .inl (false, ((.ofNat 0), [(3, (.ofNat 1))])), .inr (.inl (some 9)), .inr (.inl (some 10)), .inr (.inl (some 11)), .inr (.inl (some 12)), .inl (false, ((.ofNat 0), [(4, (.ofNat 1))])), .inl (false, ((.ofNat 0), [(5, (.ofNat 1))])), .inl (false, ((.ofNat 0), [(6, (.ofNat 1))])), .inr (.inl (some 13)), .inl (false, ((.ofNat 0), [(7, (.ofNat 1))])), .inl (false, ((.ofNat 0), [(8, (.ofNat 1))])), .inl (false, ((.ofNat 0), [(9, (.ofNat 1))])), .inr (.inl (some 14))])
def zc299 : AC := .inl (12, [.inr (.inl (some 1)), .inr (.inl (some 2)), .inr (.inl (some 3)), .inl (false, ((.negSucc 47), [(0, (.ofNat 1)), (1, (.ofNat 1))])), .inr (.inl (some 4)), .inr (.inl (some 5)), .inl (false, ((.ofNat 48), [])), .inr (.inl (some 6)), .inr (.inl (some 7)), .inl (false, ((.ofNat 0), [(2, (.ofNat 1))])), .inr (.inl (some 8)), .inl (false, ((.ofNat 0), [(3, (.ofNat 1))])), .inr (.inl (some 9)), .inr (.inl (some 10)), .inr (.inl (some 11)), .inr (.inl (some 12)), .inl (false, ((.ofNat 0), [(4, (.ofNat 1))])), .inl (false, ((.ofNat 0), [(5, (.ofNat 1))])), .inl (false, ((.ofNat 0), [(6, (.ofNat 1))])), .inr (.inl (some 13)), .inl (false, ((.ofNat 0), [(7, (.ofNat 1))])), .inl (false, ((.ofNat 0), [(8, (.ofNat 1))])), .inl (false, ((.ofNat 0), [(9, (.ofNat 1))])), .inr (.inl (some 14))])
def zc300 : AC := .inl (12, [.inr (.inl (some 1)), .inr (.inl (some 2)), .inr (.inl (some 3)), .inl (false, ((.negSucc 48), [(0, (.ofNat 1)), (1, (.ofNat 1))])), .inr (.inl (some 4)), .inr (.inl (some 5)), .inl (false, ((.ofNat 49), [])), .inr (.inl (some 6)), .inr (.inl (some 7)), .inl (false, ((.ofNat 0), [(2, (.ofNat 1))])), .inr (.inl (some 8)), .inl (false, ((.ofNat 0), [(3, (.ofNat 1))])), .inr (.inl (some 9)), .inr (.inl (some 10)), .inr (.inl (some 11)), .inr (.inl (some 12)), .inl (false, ((.ofNat 0), [(4, (.ofNat 1))])), .inl (false, ((.ofNat 0), [(5, (.ofNat 1))])), .inl (false, ((.ofNat 0), [(6, (.ofNat 1))])), .inr (.inl (some 13)), .inl (false, ((.ofNat 0), [(7, (.ofNat 1))])), .inl (false, ((.ofNat 0), [(8, (.ofNat 1))])), .inl (false, ((.ofNat 0), [(9, (.ofNat 1))])), .inr (.inl (some 14))])
def zc301 : AC := .inl (12, [.inr (.inl (some 1)), .inr (.inl (some 2)), .inr (.inl (some 3)), .inl (false, ((.negSucc 4), [(0, (.ofNat 1)), (1, (.ofNat 1))])), .inr (.inl (some 4)), .inr (.inl (some 5)), .inl (false, ((.ofNat 5), [])), .inr (.inl (some 6)), .inr (.inl (some 7)), .inl (false, ((.ofNat 0), [(2, (.ofNat 1))])), .inr (.inl (some 8)), .inl (false, ((.ofNat 0), [(3, (.ofNat 1))])), .inr (.inl (some 9)), .inr (.inl (some 10)), .inr (.inl (some 11)), .inr (.inl (some 12)), .inl (false, ((.ofNat 0), [(4, (.ofNat 1))])), .inl (false, ((.ofNat 0), [(5, (.ofNat 1))])), .inl (false, ((.ofNat 0), [(6, (.ofNat 1))])), .inr (.inl (some 13)), .inl (false, ((.ofNat 0), [(7, (.ofNat 1))])), .inl (false, ((.ofNat 0), [(8, (.ofNat 1))])), .inl (false, ((.ofNat 0), [(9, (.ofNat 1))])), .inr (.inl (some 14))])
def zc302 : AC := .inl (12, [.inr (.inl (some 1)), .inr (.inl (some 2)), .inr (.inl (some 3)), .inl (false, ((.negSucc 49), [(0, (.ofNat 1)), (1, (.ofNat 1))])), .inr (.inl (some 4)), .inr (.inl (some 5)), .inl (false, ((.ofNat 50), [])), .inr (.inl (some 6)), .inr (.inl (some 7)), .inl (false, ((.ofNat 0), [(2, (.ofNat 1))])), .inr (.inl (some 8)), .inl (false, ((.ofNat 0), [(3, (.ofNat 1))])), .inr (.inl (some 9)), .inr (.inl (some 10)), .inr (.inl (some 11)), .inr (.inl (some 12)), .inl (false, ((.ofNat 0), [(4, (.ofNat 1))])), .inl (false, ((.ofNat 0), [(5, (.ofNat 1))])), .inl (false, ((.ofNat 0), [(6, (.ofNat 1))])), .inr (.inl (some 13)), .inl (false, ((.ofNat 0), [(7, (.ofNat 1))])), .inl (false, ((.ofNat 0), [(8, (.ofNat 1))])), .inl (false, ((.ofNat 0), [(9, (.ofNat 1))])), .inr (.inl (some 14))])
def zc303 : AC := .inl (12, [.inr (.inl (some 1)), .inr (.inl (some 2)), .inr (.inl (some 3)), .inl (false, ((.negSucc 50), [(0, (.ofNat 1)), (1, (.ofNat 1))])), .inr (.inl (some 4)), .inr (.inl (some 5)), .inl (false, ((.ofNat 51), [])), .inr (.inl (some 6)), .inr (.inl (some 7)), .inl (false, ((.ofNat 0), [(2, (.ofNat 1))])), .inr (.inl (some 8)), .inl (false, ((.ofNat 0), [(3, (.ofNat 1))])), .inr (.inl (some 9)), .inr (.inl (some 10)), .inr (.inl (some 11)), .inr (.inl (some 12)), .inl (false, ((.ofNat 0), [(4, (.ofNat 1))])), .inl (false, ((.ofNat 0), [(5, (.ofNat 1))])), .inl (false, ((.ofNat 0), [(6, (.ofNat 1))])), .inr (.inl (some 13)), .inl (false, ((.ofNat 0), [(7, (.ofNat 1))])), .inl (false, ((.ofNat 0), [(8, (.ofNat 1))])), .inl (false, ((.ofNat 0), [(9, (.ofNat 1))])), .inr (.inl (some 14))])
def zc304 : AC := .inl (12, [.inr (.inl (some 1)), .inr (.inl (some 2)), .inr (.inl (some 3)), .inl (false, ((.negSucc 51), [(0, (.ofNat 1)), (1, (.ofNat 1))])), .inr (.inl (some 4)), .inr (.inl (some 5)), .inl (false, ((.ofNat 52), [])), .inr (.inl (some 6)), .inr (.inl (some 7)), .inl (false, ((.ofNat 0), [(2, (.ofNat 1))])), .inr (.inl (some 8)), .inl (false, ((.ofNat 0), [(3, (.ofNat 1))])), .inr (.inl (some 9)), .inr (.inl (some 10)), .inr (.inl (some 11)), .inr (.inl (some 12)), .inl (false, ((.ofNat 0), [(4, (.ofNat 1))])), .inl (false, ((.ofNat 0), [(5, (.ofNat 1))])), .inl (false, ((.ofNat 0), [(6, (.ofNat 1))])), .inr (.inl (some 13)), .inl (false, ((.ofNat 0), [(7, (.ofNat 1))])), .inl (false, ((.ofNat 0), [(8, (.ofNat 1))])), .inl (false, ((.ofNat 0), [(9, (.ofNat 1))])), .inr (.inl (some 14))])
def zc305 : AC := .inl (12, [.inr (.inl (some 1)), .inr (.inl (some 2)), .inr (.inl (some 3)), .inl (false, ((.negSucc 52), [(0, (.ofNat 1)), (1, (.ofNat 1))])), .inr (.inl (some 4)), .inr (.inl (some 5)), .inl (false, ((.ofNat 53), [])), .inr (.inl (some 6)), .inr (.inl (some 7)), .inl (false, ((.ofNat 0), [(2, (.ofNat 1))])), .inr (.inl (some 8)), .inl (false, ((.ofNat 0), [(3, (.ofNat 1))])), .inr (.inl (some 9)), .inr (.inl (some 10)), .inr (.inl (some 11)), .inr (.inl (some 12)), .inl (false, ((.ofNat 0), [(4, (.ofNat 1))])), .inl (false, ((.ofNat 0), [(5, (.ofNat 1))])), .inl (false, ((.ofNat 0), [(6, (.ofNat 1))])), .inr (.inl (some 13)), .inl (false, ((.ofNat 0), [(7, (.ofNat 1))])), .inl (false, ((.ofNat 0), [(8, (.ofNat 1))])), .inl (false, ((.ofNat 0), [(9, (.ofNat 1))])), .inr (.inl (some 14))])
def zc306 : AC := .inl (12, [.inr (.inl (some 1)), .inr (.inl (some 2)), .inr (.inl (some 3)), .inl (false, ((.negSucc 53), [(0, (.ofNat 1)), (1, (.ofNat 1))])), .inr (.inl (some 4)), .inr (.inl (some 5)), .inl (false, ((.ofNat 54), [])), .inr (.inl (some 6)), .inr (.inl (some 7)), .inl (false, ((.ofNat 0), [(2, (.ofNat 1))])), .inr (.inl (some 8)), .inl (false, ((.ofNat 0), [(3, (.ofNat 1))])), .inr (.inl (some 9)), .inr (.inl (some 10)), .inr (.inl (some 11)), .inr (.inl (some 12)), .inl (false, ((.ofNat 0), [(4, (.ofNat 1))])), .inl (false, ((.ofNat 0), [(5, (.ofNat 1))])), .inl (false, ((.ofNat 0), [(6, (.ofNat 1))])), .inr (.inl (some 13)), .inl (false, ((.ofNat 0), [(7, (.ofNat 1))])), .inl (false, ((.ofNat 0), [(8, (.ofNat 1))])), .inl (false, ((.ofNat 0), [(9, (.ofNat 1))])), .inr (.inl (some 14))])
def zc307 : AC := .inl (12, [.inr (.inl (some 1)), .inr (.inl (some 2)), .inr (.inl (some 3)), .inl (false, ((.negSucc 54), [(0, (.ofNat 1)), (1, (.ofNat 1))])), .inr (.inl (some 4)), .inr (.inl (some 5)), .inl (false, ((.ofNat 55), [])), .inr (.inl (some 6)), .inr (.inl (some 7)), .inl (false, ((.ofNat 0), [(2, (.ofNat 1))])), .inr (.inl (some 8)), .inl (false, ((.ofNat 0), [(3, (.ofNat 1))])), .inr (.inl (some 9)), .inr (.inl (some 10)), .inr (.inl (some 11)), .inr (.inl (some 12)), .inl (false, ((.ofNat 0), [(4, (.ofNat 1))])), .inl (false, ((.ofNat 0), [(5, (.ofNat 1))])), .inl (false, ((.ofNat 0), [(6, (.ofNat 1))])), .inr (.inl (some 13)), .inl (false, ((.ofNat 0), [(7, (.ofNat 1))])), .inl (false, ((.ofNat 0), [(8, (.ofNat 1))])), .inl (false, ((.ofNat 0), [(9, (.ofNat 1))])), .inr (.inl (some 14))])
def zc308 : AC := .inl (12, [.inr (.inl (some 1)), .inr (.inl (some 2)), .inr (.inl (some 3)), .inl (false, ((.negSucc 55), [(0, (.ofNat 1)), (1, (.ofNat 1))])), .inr (.inl (some 4)), .inr (.inl (some 5)), .inl (false, ((.ofNat 56), [])), .inr (.inl (some 6)), .inr (.inl (some 7)), .inl (false, ((.ofNat 0), [(2, (.ofNat 1))])), .inr (.inl (some 8)), .inl (false, ((.ofNat 0), [(3, (.ofNat 1))])), .inr (.inl (some 9)), .inr (.inl (some 10)), .inr (.inl (some 11)), .inr (.inl (some 12)), .inl (false, ((.ofNat 0), [(4, (.ofNat 1))])), .inl (false, ((.ofNat 0), [(5, (.ofNat 1))])), .inl (false, ((.ofNat 0), [(6, (.ofNat 1))])), .inr (.inl (some 13)), .inl (false, ((.ofNat 0), [(7, (.ofNat 1))])), .inl (false, ((.ofNat 0), [(8, (.ofNat 1))])), .inl (false, ((.ofNat 0), [(9, (.ofNat 1))])), .inr (.inl (some 14))])
def zc309 : AC := .inl (12, [.inr (.inl (some 1)), .inr (.inl (some 2)), .inr (.inl (some 3)), .inl (false, ((.negSucc 56), [(0, (.ofNat 1)), (1, (.ofNat 1))])), .inr (.inl (some 4)), .inr (.inl (some 5)), .inl (false, ((.ofNat 57), [])), .inr (.inl (some 6)), .inr (.inl (some 7)), .inl (false, ((.ofNat 0), [(2, (.ofNat 1))])), .inr (.inl (some 8)), .inl (false, ((.ofNat 0), [(3, (.ofNat 1))])), .inr (.inl (some 9)), .inr (.inl (some 10)), .inr (.inl (some 11)), .inr (.inl (some 12)), .inl (false, ((.ofNat 0), [(4, (.ofNat 1))])), .inl (false, ((.ofNat 0), [(5, (.ofNat 1))])), .inl (false, ((.ofNat 0), [(6, (.ofNat 1))])), .inr (.inl (some 13)), .inl (false, ((.ofNat 0), [(7, (.ofNat 1))])), .inl (false, ((.ofNat 0), [(8, (.ofNat 1))])), .inl (false, ((.ofNat 0), [(9, (.ofNat 1))])), .inr (.inl (some 14))])
def zc310 : AC := .inl (12, [.inr (.inl (some 1)), .inr (.inl (some 2)), .inr (.inl (some 3)), .inl (false, ((.negSucc 57), [(0, (.ofNat 1)), (1, (.ofNat 1))])), .inr (.inl (some 4)), .inr (.inl (some 5)), .inl (false, ((.ofNat 58), [])), .inr (.inl (some 6)), .inr (.inl (some 7)), .inl (false, ((.ofNat 0), [(2, (.ofNat 1))])), .inr (.inl (some 8)), .inl (false, ((.ofNat 0), [(3, (.ofNat 1))])), .inr (.inl (some 9)), .inr (.inl (some 10)), .inr (.inl (some 11)), .inr (.inl (some 12)), .inl (false, ((.ofNat 0), [(4, (.ofNat 1))])), .inl (false, ((.ofNat 0), [(5, (.ofNat 1))])), .inl (false, ((.ofNat 0), [(6, (.ofNat 1))])), .inr (.inl (some 13)), .inl (false, ((.ofNat 0), [(7, (.ofNat 1))])), .inl (false, ((.ofNat 0), [(8, (.ofNat 1))])), .inl (false, ((.ofNat 0), [(9, (.ofNat 1))])), .inr (.inl (some 14))])
def zc311 : AC := .inl (12, [.inr (.inl (some 1)), .inr (.inl (some 2)), .inr (.inl (some 3)), .inl (false, ((.negSucc 58), [(0, (.ofNat 1)), (1, (.ofNat 1))])), .inr (.inl (some 4)), .inr (.inl (some 5)), .inl (false, ((.ofNat 59), [])), .inr (.inl (some 6)), .inr (.inl (some 7)), .inl (false, ((.ofNat 0), [(2, (.ofNat 1))])), .inr (.inl (some 8)), .inl (false, ((.ofNat 0), [(3, (.ofNat 1))])), .inr (.inl (some 9)), .inr (.inl (some 10)), .inr (.inl (some 11)), .inr (.inl (some 12)), .inl (false, ((.ofNat 0), [(4, (.ofNat 1))])), .inl (false, ((.ofNat 0), [(5, (.ofNat 1))])), .inl (false, ((.ofNat 0), [(6, (.ofNat 1))])), .inr (.inl (some 13)), .inl (false, ((.ofNat 0), [(7, (.ofNat 1))])), .inl (false, ((.ofNat 0), [(8, (.ofNat 1))])), .inl (false, ((.ofNat 0), [(9, (.ofNat 1))])), .inr (.inl (some 14))])
def zc312 : AC := .inl (12, [.inr (.inl (some 1)), .inr (.inl (some 2)), .inr (.inl (some 3)), .inl (false, ((.negSucc 5), [(0, (.ofNat 1)), (1, (.ofNat 1))])), .inr (.inl (some 4)), .inr (.inl (some 5)), .inl (false, ((.ofNat 6), [])), .inr (.inl (some 6)), .inr (.inl (some 7)), .inl (false, ((.ofNat 0), [(2, (.ofNat 1))])), .inr (.inl (some 8)), .inl (false, ((.ofNat 0), [(3, (.ofNat 1))])), .inr (.inl (some 9)), .inr (.inl (some 10)), .inr (.inl (some 11)), .inr (.inl (some 12)), .inl (false, ((.ofNat 0), [(4, (.ofNat 1))])), .inl (false, ((.ofNat 0), [(5, (.ofNat 1))])), .inl (false, ((.ofNat 0), [(6, (.ofNat 1))])), .inr (.inl (some 13)), .inl (false, ((.ofNat 0), [(7, (.ofNat 1))])), .inl (false, ((.ofNat 0), [(8, (.ofNat 1))])), .inl (false, ((.ofNat 0), [(9, (.ofNat 1))])), .inr (.inl (some 14))])
def zc313 : AC := .inl (12, [.inr (.inl (some 1)), .inr (.inl (some 2)), .inr (.inl (some 3)), .inl (false, ((.negSucc 59), [(0, (.ofNat 1)), (1, (.ofNat 1))])), .inr (.inl (some 4)), .inr (.inl (some 5)), .inl (false, ((.ofNat 60), [])), .inr (.inl (some 6)), .inr (.inl (some 7)), .inl (false, ((.ofNat 0), [(2, (.ofNat 1))])), .inr (.inl (some 8)), .inl (false, ((.ofNat 0), [(3, (.ofNat 1))])), .inr (.inl (some 9)), .inr (.inl (some 10)), .inr (.inl (some 11)), .inr (.inl (some 12)), .inl (false, ((.ofNat 0), [(4, (.ofNat 1))])), .inl (false, ((.ofNat 0), [(5, (.ofNat 1))])), .inl (false, ((.ofNat 0), [(6, (.ofNat 1))])), .inr (.inl (some 13)), .inl (false, ((.ofNat 0), [(7, (.ofNat 1))])), .inl (false, ((.ofNat 0), [(8, (.ofNat 1))])), .inl (false, ((.ofNat 0), [(9, (.ofNat 1))])), .inr (.inl (some 14))])
def zc314 : AC := .inl (12, [.inr (.inl (some 1)), .inr (.inl (some 2)), .inr (.inl (some 3)), .inl (false, ((.negSucc 60), [(0, (.ofNat 1)), (1, (.ofNat 1))])), .inr (.inl (some 4)), .inr (.inl (some 5)), .inl (false, ((.ofNat 61), [])), .inr (.inl (some 6)), .inr (.inl (some 7)), .inl (false, ((.ofNat 0), [(2, (.ofNat 1))])), .inr (.inl (some 8)), .inl (false, ((.ofNat 0), [(3, (.ofNat 1))])), .inr (.inl (some 9)), .inr (.inl (some 10)), .inr (.inl (some 11)), .inr (.inl (some 12)), .inl (false, ((.ofNat 0), [(4, (.ofNat 1))])), .inl (false, ((.ofNat 0), [(5, (.ofNat 1))])), .inl (false, ((.ofNat 0), [(6, (.ofNat 1))])), .inr (.inl (some 13)), .inl (false, ((.ofNat 0), [(7, (.ofNat 1))])), .inl (false, ((.ofNat 0), [(8, (.ofNat 1))])), .inl (false, ((.ofNat 0), [(9, (.ofNat 1))])), .inr (.inl (some 14))])
def zc315 : AC := .inl (12, [.inr (.inl (some 1)), .inr (.inl (some 2)), .inr (.inl (some 3)), .inl (false, ((.negSucc 61), [(0, (.ofNat 1)), (1, (.ofNat 1))])), .inr (.inl (some 4)), .inr (.inl (some 5)), .inl (false, ((.ofNat 62), [])), .inr (.inl (some 6)), .inr (.inl (some 7)), .inl (false, ((.ofNat 0), [(2, (.ofNat 1))])), .inr (.inl (some 8)), .inl (false, ((.ofNat 0), [(3, (.ofNat 1))])), .inr (.inl (some 9)), .inr (.inl (some 10)), .inr (.inl (some 11)), .inr (.inl (some 12)), .inl (false, ((.ofNat 0), [(4, (.ofNat 1))])), .inl (false, ((.ofNat 0), [(5, (.ofNat 1))])), .inl (false, ((.ofNat 0), [(6, (.ofNat 1))])), .inr (.inl (some 13)), .inl (false, ((.ofNat 0), [(7, (.ofNat 1))])), .inl (false, ((.ofNat 0), [(8, (.ofNat 1))])), .inl (false, ((.ofNat 0), [(9, (.ofNat 1))])), .inr (.inl (some 14))])
def zc316 : AC := .inl (12, [.inr (.inl (some 1)), .inr (.inl (some 2)), .inr (.inl (some 3)), .inl (false, ((.negSucc 62), [(0, (.ofNat 1)), (1, (.ofNat 1))])), .inr (.inl (some 4)), .inr (.inl (some 5)), .inl (false, ((.ofNat 63), [])), .inr (.inl (some 6)), .inr (.inl (some 7)), .inl (false, ((.ofNat 0), [(2, (.ofNat 1))])), .inr (.inl (some 8)), .inl (false, ((.ofNat 0), [(3, (.ofNat 1))])), .inr (.inl (some 9)), .inr (.inl (some 10)), .inr (.inl (some 11)), .inr (.inl (some 12)), .inl (false, ((.ofNat 0), [(4, (.ofNat 1))])), .inl (false, ((.ofNat 0), [(5, (.ofNat 1))])), .inl (false, ((.ofNat 0), [(6, (.ofNat 1))])), .inr (.inl (some 13)), .inl (false, ((.ofNat 0), [(7, (.ofNat 1))])), .inl (false, ((.ofNat 0), [(8, (.ofNat 1))])), .inl (false, ((.ofNat 0), [(9, (.ofNat 1))])), .inr (.inl (some 14))])
def zc317 : AC := .inl (12, [.inr (.inl (some 1)), .inr (.inl (some 2)), .inr (.inl (some 3)), .inl (false, ((.negSucc 63), [(0, (.ofNat 1)), (1, (.ofNat 1))])), .inr (.inl (some 4)), .inr (.inl (some 5)), .inl (false, ((.ofNat 64), [])), .inr (.inl (some 6)), .inr (.inl (some 7)), .inl (false, ((.ofNat 0), [(2, (.ofNat 1))])), .inr (.inl (some 8)), .inl (false, ((.ofNat 0), [(3, (.ofNat 1))])), .inr (.inl (some 9)), .inr (.inl (some 10)), .inr (.inl (some 11)), .inr (.inl (some 12)), .inl (false, ((.ofNat 0), [(4, (.ofNat 1))])), .inl (false, ((.ofNat 0), [(5, (.ofNat 1))])), .inl (false, ((.ofNat 0), [(6, (.ofNat 1))])), .inr (.inl (some 13)), .inl (false, ((.ofNat 0), [(7, (.ofNat 1))])), .inl (false, ((.ofNat 0), [(8, (.ofNat 1))])), .inl (false, ((.ofNat 0), [(9, (.ofNat 1))])), .inr (.inl (some 14))])
def zc318 : AC := .inl (12, [.inr (.inl (some 1)), .inr (.inl (some 2)), .inr (.inl (some 3)), .inl (false, ((.negSucc 64), [(0, (.ofNat 1)), (1, (.ofNat 1))])), .inr (.inl (some 4)), .inr (.inl (some 5)), .inl (false, ((.ofNat 65), [])), .inr (.inl (some 6)), .inr (.inl (some 7)), .inl (false, ((.ofNat 0), [(2, (.ofNat 1))])), .inr (.inl (some 8)), .inl (false, ((.ofNat 0), [(3, (.ofNat 1))])), .inr (.inl (some 9)), .inr (.inl (some 10)), .inr (.inl (some 11)), .inr (.inl (some 12)), .inl (false, ((.ofNat 0), [(4, (.ofNat 1))])), .inl (false, ((.ofNat 0), [(5, (.ofNat 1))])), .inl (false, ((.ofNat 0), [(6, (.ofNat 1))])), .inr (.inl (some 13)), .inl (false, ((.ofNat 0), [(7, (.ofNat 1))])), .inl (false, ((.ofNat 0), [(8, (.ofNat 1))])), .inl (false, ((.ofNat 0), [(9, (.ofNat 1))])), .inr (.inl (some 14))])
def zc319 : AC := .inl (12, [.inr (.inl (some 1)), .inr (.inl (some 2)), .inr (.inl (some 3)), .inl (false, ((.negSucc 65), [(0, (.ofNat 1)), (1, (.ofNat 1))])), .inr (.inl (some 4)), .inr (.inl (some 5)), .inl (false, ((.ofNat 66), [])), .inr (.inl (some 6)), .inr (.inl (some 7)), .inl (false, ((.ofNat 0), [(2, (.ofNat 1))])), .inr (.inl (some 8)), .inl (false, ((.ofNat 0), [(3, (.ofNat 1))])), .inr (.inl (some 9)), .inr (.inl (some 10)), .inr (.inl (some 11)), .inr (.inl (some 12)), .inl (false, ((.ofNat 0), [(4, (.ofNat 1))])), .inl (false, ((.ofNat 0), [(5, (.ofNat 1))])), .inl (false, ((.ofNat 0), [(6, (.ofNat 1))])), .inr (.inl (some 13)), .inl (false, ((.ofNat 0), [(7, (.ofNat 1))])), .inl (false, ((.ofNat 0), [(8, (.ofNat 1))])), .inl (false, ((.ofNat 0), [(9, (.ofNat 1))])), .inr (.inl (some 14))])
def zc320 : AC := .inl (12, [.inr (.inl (some 1)), .inr (.inl (some 2)), .inr (.inl (some 3)), .inl (false, ((.negSucc 66), [(0, (.ofNat 1)), (1, (.ofNat 1))])), .inr (.inl (some 4)), .inr (.inl (some 5)), .inl (false, ((.ofNat 67), [])), .inr (.inl (some 6)), .inr (.inl (some 7)), .inl (false, ((.ofNat 0), [(2, (.ofNat 1))])), .inr (.inl (some 8)), .inl (false, ((.ofNat 0), [(3, (.ofNat 1))])), .inr (.inl (some 9)), .inr (.inl (some 10)), .inr (.inl (some 11)), .inr (.inl (some 12)), .inl (false, ((.ofNat 0), [(4, (.ofNat 1))])), .inl (false, ((.ofNat 0), [(5, (.ofNat 1))])), .inl (false, ((.ofNat 0), [(6, (.ofNat 1))])), .inr (.inl (some 13)), .inl (false, ((.ofNat 0), [(7, (.ofNat 1))])), .inl (false, ((.ofNat 0), [(8, (.ofNat 1))])), .inl (false, ((.ofNat 0), [(9, (.ofNat 1))])), .inr (.inl (some 14))])
def zc321 : AC := .inl (12, [.inr (.inl (some 1)), .inr (.inl (some 2)), .inr (.inl (some 3)), .inl (false, ((.negSucc 67), [(0, (.ofNat 1)), (1, (.ofNat 1))])), .inr (.inl (some 4)), .inr (.inl (some 5)), .inl (false, ((.ofNat 68), [])), .inr (.inl (some 6)), .inr (.inl (some 7)), .inl (false, ((.ofNat 0), [(2, (.ofNat 1))])), .inr (.inl (some 8)), .inl (false, ((.ofNat 0), [(3, (.ofNat 1))])), .inr (.inl (some 9)), .inr (.inl (some 10)), .inr (.inl (some 11)), .inr (.inl (some 12)), .inl (false, ((.ofNat 0), [(4, (.ofNat 1))])), .inl (false, ((.ofNat 0), [(5, (.ofNat 1))])), .inl (false, ((.ofNat 0), [(6, (.ofNat 1))])), .inr (.inl (some 13)), .inl (false, ((.ofNat 0), [(7, (.ofNat 1))])), .inl (false, ((.ofNat 0), [(8, (.ofNat 1))])), .inl (false, ((.ofNat 0), [(9, (.ofNat 1))])), .inr (.inl (some 14))])
def zc322 : AC := .inl (12, [.inr (.inl (some 1)), .inr (.inl (some 2)), .inr (.inl (some 3)), .inl (false, ((.negSucc 6), [(0, (.ofNat 1)), (1, (.ofNat 1))])), .inr (.inl (some 4)), .inr (.inl (some 5)), .inl (false, ((.ofNat 7), [])), .inr (.inl (some 6)), .inr (.inl (some 7)), .inl (false, ((.ofNat 0), [(2, (.ofNat 1))])), .inr (.inl (some 8)), .inl (false, ((.ofNat 0), [(3, (.ofNat 1))])), .inr (.inl (some 9)), .inr (.inl (some 10)), .inr (.inl (some 11)), .inr (.inl (some 12)), .inl (false, ((.ofNat 0), [(4, (.ofNat 1))])), .inl (false, ((.ofNat 0), [(5, (.ofNat 1))])), .inl (false, ((.ofNat 0), [(6, (.ofNat 1))])), .inr (.inl (some 13)), .inl (false, ((.ofNat 0), [(7, (.ofNat 1))])), .inl (false, ((.ofNat 0), [(8, (.ofNat 1))])), .inl (false, ((.ofNat 0), [(9, (.ofNat 1))])), .inr (.inl (some 14))])
def zc323 : AC := .inl (12, [.inr (.inl (some 1)), .inr (.inl (some 2)), .inr (.inl (some 3)), .inl (false, ((.negSucc 7), [(0, (.ofNat 1)), (1, (.ofNat 1))])), .inr (.inl (some 4)), .inr (.inl (some 5)), .inl (false, ((.ofNat 8), [])), .inr (.inl (some 6)), .inr (.inl (some 7)), .inl (false, ((.ofNat 0), [(2, (.ofNat 1))])), .inr (.inl (some 8)), .inl (false, ((.ofNat 0), [(3, (.ofNat 1))])), .inr (.inl (some 9)), .inr (.inl (some 10)), .inr (.inl (some 11)), .inr (.inl (some 12)), .inl (false, ((.ofNat 0), [(4, (.ofNat 1))])), .inl (false, ((.ofNat 0), [(5, (.ofNat 1))])), .inl (false, ((.ofNat 0), [(6, (.ofNat 1))])), .inr (.inl (some 13)), .inl (false, ((.ofNat 0), [(7, (.ofNat 1))])), .inl (false, ((.ofNat 0), [(8, (.ofNat 1))])), .inl (false, ((.ofNat 0), [(9, (.ofNat 1))])), .inr (.inl (some 14))])
def zc324 : AC := .inl (12, [.inr (.inl (some 1)), .inr (.inl (some 2)), .inr (.inl (some 3)), .inl (false, ((.negSucc 8), [(0, (.ofNat 1)), (1, (.ofNat 1))])), .inr (.inl (some 4)), .inr (.inl (some 5)), .inl (false, ((.ofNat 9), [])), .inr (.inl (some 6)), .inr (.inl (some 7)), .inl (false, ((.ofNat 0), [(2, (.ofNat 1))])), .inr (.inl (some 8)), .inl (false, ((.ofNat 0), [(3, (.ofNat 1))])), .inr (.inl (some 9)), .inr (.inl (some 10)), .inr (.inl (some 11)), .inr (.inl (some 12)), .inl (false, ((.ofNat 0), [(4, (.ofNat 1))])), .inl (false, ((.ofNat 0), [(5, (.ofNat 1))])), .inl (false, ((.ofNat 0), [(6, (.ofNat 1))])), .inr (.inl (some 13)), .inl (false, ((.ofNat 0), [(7, (.ofNat 1))])), .inl (false, ((.ofNat 0), [(8, (.ofNat 1))])), .inl (false, ((.ofNat 0), [(9, (.ofNat 1))])), .inr (.inl (some 14))])
noncomputable def c162_0 : Ct := (162, 2, (18, [(0, (.ofNat 0), (.ofNat 69)), (1, (.ofNat 0), (.ofNat 69)), (2, (.ofNat 0), (.ofNat 8)), (3, (.negSucc 2147483647), (.ofNat 2147483647)), (4, (.negSucc 2147483647), (.ofNat 2147483647)), (5, (.negSucc 2147483647), (.ofNat 2147483647)), (6, (.negSucc 2147483647), (.ofNat 2147483647)), (7, (.negSucc 2147483647), (.ofNat 2147483647)), (8, (.negSucc 2147483647), (.ofNat 2147483647)), (9, (.negSucc 2147483647), (.ofNat 2147483647))], [((.negSucc 68), [(0, (.ofNat 1)), (1, (.ofNat 1))])], [.inr (.inl (some 0)), .inl (false, ((.ofNat 1), []))], [zc177,
    zc51,
    zc52,
    zc255,
    zc253,
    zc253,
    zc253,
    .inr (1, .inr (.inl 70)),
    .inr (1, .inr (.inl 8)),
    zc54,
    zc55,
    zc56,
    zc57,
    zc111,
    .inr (1, .inr (.inl 4))], [(2, [1], []), (1, [1], [])]),
  [((18, [], [((.negSucc 69), [(0, (.ofNat 1)), (1, (.ofNat 1))]), ((.negSucc 69), [(0, (.ofNat 1)), (1, (.ofNat 1))])], [], [zc256,
    zc51,
    zc52,
    zc255,
    zc253,
    zc253,
    zc253,
    .inr (1, .inr (.inl 70)),
    .inr (1, .inr (.inl 8)),
    zc54,
    zc55,
    zc56,
    zc57,
    zc111,
    .inr (1, .inr (.inl 4))], [(2, [1], []), (1, [1], [])]), 0, 0),
   ((19, [(1, (.ofNat 1), (.ofNat 69)), (18, (.ofNat 1), (.ofNat 69))], [((.negSucc 69), [(0, (.ofNat 1)), (1, (.ofNat 1))]), ((.negSucc 69), [(0, (.ofNat 1)), (1, (.ofNat 1))]), ((.negSucc 70), [(0, (.ofNat 1)), (1, (.ofNat 1))]), ((.ofNat 0), [(0, (.negSucc 0)), (1, (.negSucc 0)), (18, (.ofNat 1))]), ((.negSucc 68), [(0, (.ofNat 1)), (1, (.ofNat 1)), (18, (.negSucc 0))]), ((.negSucc 69), [(0, (.ofNat 1)), (1, (.ofNat 1)), (18, (.negSucc 0))]), ((.ofNat 0), [(1, (.negSucc 0)), (18, (.ofNat 1))]), ((.negSucc 0), [(1, (.negSucc 0)), (18, (.ofNat 1))])], [], [.inl (12, [.inr (.inl (some 1)), .inr (.inl (some 2)), .inr (.inl (some 3)), .inl (false, ((.ofNat 0), [(0, (.ofNat 1)), (1, (.ofNat 1)), (18, (.negSucc 0))])), .inr (.inl (some 4)), .inr (.inl (some 5)), .inl (false, ((.ofNat 0), [(18, (.ofNat 1))])), .inr (.inl (some 6)), .inr (.inl (some 7)), .inl (false, ((.ofNat 0), [(2, (.ofNat 1))])), .inr (.inl (some 8)), .inl (false, ((.ofNat 0), [(3, (.ofNat 1))])), .inr (.inl (some 9)), .inr (.inl (some 10)), .inr (.inl (some 11)), .inr (.inl (some 12)), .inl (false, ((.ofNat 0), [(4, (.ofNat 1))])), .inl (false, ((.ofNat 0), [(5, (.ofNat 1))])), .inl (false, ((.ofNat 0), [(6, (.ofNat 1))])), .inr (.inl (some 13)), .inl (false, ((.ofNat 0), [(7, (.ofNat 1))])), .inl (false, ((.ofNat 0), [(8, (.ofNat 1))])), .inl (false, ((.ofNat 0), [(9, (.ofNat 1))])), .inr (.inl (some 14))]),
    zc51,
    zc52,
    zc255,
    zc253,
    zc253,
    zc253,
    .inr (1, .inr (.inl 70)),
    .inr (1, .inr (.inl 8)),
    zc54,
    zc55,
    zc56,
    zc57,
    zc111,
    .inr (1, .inr (.inl 4))], [(2, [1], []), (1, [1], [])]), 0, 0)])
noncomputable def c162_0_e : List Ct := [c163_0, c164_0]
noncomputable def c162_0_p0 : PE := (1, [0, 1], (18, [(0, (.ofNat 0), (.ofNat 69)), (1, (.ofNat 0), (.ofNat 69)), (2, (.ofNat 0), (.ofNat 8)), (3, (.negSucc 2147483647), (.ofNat 2147483647)), (4, (.negSucc 2147483647), (.ofNat 2147483647)), (5, (.negSucc 2147483647), (.ofNat 2147483647)), (6, (.negSucc 2147483647), (.ofNat 2147483647)), (7, (.negSucc 2147483647), (.ofNat 2147483647)), (8, (.negSucc 2147483647), (.ofNat 2147483647)), (9, (.negSucc 2147483647), (.ofNat 2147483647))], [((.negSucc 68), [(0, (.ofNat 1)), (1, (.ofNat 1))]), ((.negSucc 69), [(0, (.ofNat 1)), (1, (.ofNat 1))]), ((.negSucc 69), [(0, (.ofNat 1)), (1, (.ofNat 1))])], [.inr (.inl (some 0)), .inr (.inl (some 0)), .inl (false, ((.ofNat 1), []))], [zc256,
    zc51,
    zc52,
    zc255,
    zc253,
    zc253,
    zc253,
    .inr (1, .inr (.inl 70)),
    .inr (1, .inr (.inl 8)),
    zc54,
    zc55,
    zc56,
    zc57,
    zc111,
    .inr (1, .inr (.inl 4))], [(2, [1], []), (1, [1], [])]), symsL 18 0, some ((.ofNat 139), [(0, (.negSucc 0)), (1, (.negSucc 0))]), 0, 0)
noncomputable def c162_0_p1 : PE := (1, [0, 1], (18, [(0, (.ofNat 0), (.ofNat 69)), (1, (.ofNat 1), (.ofNat 69)), (2, (.ofNat 0), (.ofNat 8)), (3, (.negSucc 2147483647), (.ofNat 2147483647)), (4, (.negSucc 2147483647), (.ofNat 2147483647)), (5, (.negSucc 2147483647), (.ofNat 2147483647)), (6, (.negSucc 2147483647), (.ofNat 2147483647)), (7, (.negSucc 2147483647), (.ofNat 2147483647)), (8, (.negSucc 2147483647), (.ofNat 2147483647)), (9, (.negSucc 2147483647), (.ofNat 2147483647))], [((.negSucc 68), [(0, (.ofNat 1)), (1, (.ofNat 1))]), ((.negSucc 69), [(0, (.ofNat 1)), (1, (.ofNat 1))]), ((.negSucc 69), [(0, (.ofNat 1)), (1, (.ofNat 1))]), ((.negSucc 70), [(0, (.ofNat 1)), (1, (.ofNat 1))])], [.inr (.inl (some 0)), .inr (.inl (some 0)), .inl (false, ((.ofNat 1), []))], [zc257,
    zc51,
    zc52,
    zc255,
    zc253,
    zc253,
    zc253,
    .inr (1, .inr (.inl 70)),
    .inr (1, .inr (.inl 8)),
    zc54,
    zc55,
    zc56,
    zc57,
    zc111,
    .inr (1, .inr (.inl 4))], [(2, [1], []), (1, [1], [])]), symsL 18 0, some ((.ofNat 140), [(0, (.negSucc 0)), (1, (.negSucc 0))]), 0, 0)
noncomputable def c162_0_p2 : PE := (1, [0, 1], (18, [(0, (.ofNat 0), (.ofNat 69)), (1, (.ofNat 10), (.ofNat 69)), (2, (.ofNat 0), (.ofNat 8)), (3, (.negSucc 2147483647), (.ofNat 2147483647)), (4, (.negSucc 2147483647), (.ofNat 2147483647)), (5, (.negSucc 2147483647), (.ofNat 2147483647)), (6, (.negSucc 2147483647), (.ofNat 2147483647)), (7, (.negSucc 2147483647), (.ofNat 2147483647)), (8, (.negSucc 2147483647), (.ofNat 2147483647)), (9, (.negSucc 2147483647), (.ofNat 2147483647))], [((.negSucc 68), [(0, (.ofNat 1)), (1, (.ofNat 1))]), ((.negSucc 69), [(0, (.ofNat 1)), (1, (.ofNat 1))]), ((.negSucc 78), [(0, (.ofNat 1)), (1, (.ofNat 1))]), ((.negSucc 79), [(0, (.ofNat 1)), (1, (.ofNat 1))])], [.inr (.inl (some 0)), .inr (.inl (some 0)), .inl (false, ((.ofNat 1), []))], [zc258,
    zc51,
    zc52,
    zc255,
    zc253,
    zc253,
    zc253,
    .inr (1, .inr (.inl 70)),
    .inr (1, .inr (.inl 8)),
    zc54,
    zc55,
    zc56,
    zc57,
    zc111,
    .inr (1, .inr (.inl 4))], [(2, [1], []), (1, [1], [])]), symsL 18 0, some ((.ofNat 149), [(0, (.negSucc 0)), (1, (.negSucc 0))]), 0, 0)
noncomputable def c162_0_p3 : PE := (1, [0, 1], (18, [(0, (.ofNat 0), (.ofNat 69)), (1, (.ofNat 11), (.ofNat 69)), (2, (.ofNat 0), (.ofNat 8)), (3, (.negSucc 2147483647), (.ofNat 2147483647)), (4, (.negSucc 2147483647), (.ofNat 2147483647)), (5, (.negSucc 2147483647), (.ofNat 2147483647)), (6, (.negSucc 2147483647), (.ofNat 2147483647)), (7, (.negSucc 2147483647), (.ofNat 2147483647)), (8, (.negSucc 2147483647), (.ofNat 2147483647)), (9, (.negSucc 2147483647), (.ofNat 2147483647))], [((.negSucc 68), [(0, (.ofNat 1)), (1, (.ofNat 1))]), ((.negSucc 69), [(0, (.ofNat 1)), (1, (.ofNat 1))]), ((.negSucc 79), [(0, (.ofNat 1)), (1, (.ofNat 1))]), ((.negSucc 80), [(0, (.ofNat 1)), (1, (.ofNat 1))])], [.inr (.inl (some 0)), .inr (.inl (some 0)), .inl (false, ((.ofNat 1), []))], [zc259,
    zc51,
    zc52,
    zc255,
    zc253,
    zc253,
    zc253,
    .inr (1, .inr (.inl 70)),
    .inr (1, .inr (.inl 8)),
    zc54,
    zc55,
    zc56,
    zc57,
    zc111,
    .inr (1, .inr (.inl 4))], [(2, [1], []), (1, [1], [])]), symsL 18 0, some ((.ofNat 150), [(0, (.negSucc 0)), (1, (.negSucc 0))]), 0, 0)
noncomputable def c162_0_p4 : PE := (1, [0, 1], (18, [(0, (.ofNat 0), (.ofNat 69)), (1, (.ofNat 12), (.ofNat 69)), (2, (.ofNat 0), (.ofNat 8)), (3, (.negSucc 2147483647), (.ofNat 2147483647)), (4, (.negSucc 2147483647), (.ofNat 2147483647)), (5, (.negSucc 2147483647), (.ofNat 2147483647)), (6, (.negSucc 2147483647), (.ofNat 2147483647)), (7, (.negSucc 2147483647), (.ofNat 2147483647)), (8, (.negSucc 2147483647), (.ofNat 2147483647)), (9, (.negSucc 2147483647), (.ofNat 2147483647))], [((.negSucc 68), [(0, (.ofNat 1)), (1, (.ofNat 1))]), ((.negSucc 69), [(0, (.ofNat 1)), (1, (.ofNat 1))]), ((.negSucc 80), [(0, (.ofNat 1)), (1, (.ofNat 1))]), ((.negSucc 81), [(0, (.ofNat 1)), (1, (.ofNat 1))])], [.inr (.inl (some 0)), .inr (.inl (some 0)), .inl (false, ((.ofNat 1), []))], [zc260,
    zc51,
    zc52,
    zc255,
    zc253,
    zc253,
    zc253,
    .inr (1, .inr (.inl 70)),
    .inr (1, .inr (.inl 8)),
    zc54,
    zc55,
    zc56,
    zc57,
    zc111,
    .inr (1, .inr (.inl 4))], [(2, [1], []), (1, [1], [])]), symsL 18 0, some ((.ofNat 151), [(0, (.negSucc 0)), (1, (.negSucc 0))]), 0, 0)
noncomputable def c162_0_p5 : PE := (1, [0, 1], (18, [(0, (.ofNat 0), (.ofNat 69)), (1, (.ofNat 13), (.ofNat 69)), (2, (.ofNat 0), (.ofNat 8)), (3, (.negSucc 2147483647), (.ofNat 2147483647)), (4, (.negSucc 2147483647), (.ofNat 2147483647)), (5, (.negSucc 2147483647), (.ofNat 2147483647)), (6, (.negSucc 2147483647), (.ofNat 2147483647)), (7, (.negSucc 2147483647), (.ofNat 2147483647)), (8, (.negSucc 2147483647), (.ofNat 2147483647)), (9, (.negSucc 2147483647), (.ofNat 2147483647))], [((.negSucc 68), [(0, (.ofNat 1)), (1, (.ofNat 1))]), ((.negSucc 69), [(0, (.ofNat 1)), (1, (.ofNat 1))]), ((.negSucc 81), [(0, (.ofNat 1)), (1, (.ofNat 1))]), ((.negSucc 82), [(0, (.ofNat 1)), (1, (.ofNat 1))])], [.inr (.inl (some 0)), .inr (.inl (some 0)), .inl (false, ((.ofNat 1), []))], [zc261,
    zc51,
    zc52,
    zc255,
    zc253,
    zc253,
    zc253,
    .inr (1, .inr (.inl 70)),
    .inr (1, .inr (.inl 8)),
    zc54,
    zc55,
    zc56,
    zc57,
    zc111,
    .inr (1, .inr (.inl 4))], [(2, [1], []), (1, [1], [])]), symsL 18 0, some ((.ofNat 152), [(0, (.negSucc 0)), (1, (.negSucc 0))]), 0, 0)
noncomputable def c162_0_p6 : PE := (1, [0, 1], (18, [(0, (.ofNat 0), (.ofNat 69)), (1, (.ofNat 14), (.ofNat 69)), (2, (.ofNat 0), (.ofNat 8)), (3, (.negSucc 2147483647), (.ofNat 2147483647)), (4, (.negSucc 2147483647), (.ofNat 2147483647)), (5, (.negSucc 2147483647), (.ofNat 2147483647)), (6, (.negSucc 2147483647), (.ofNat 2147483647)), (7, (.negSucc 2147483647), (.ofNat 2147483647)), (8, (.negSucc 2147483647), (.ofNat 2147483647)), (9, (.negSucc 2147483647), (.ofNat 2147483647))], [((.negSucc 68), [(0, (.ofNat 1)), (1, (.ofNat 1))]), ((.negSucc 69), [(0, (.ofNat 1)), (1, (.ofNat 1))]), ((.negSucc 82), [(0, (.ofNat 1)), (1, (.ofNat 1))]), ((.negSucc 83), [(0, (.ofNat 1)), (1, (.ofNat 1))])], [.inr (.inl (some 0)), .inr (.inl (some 0)), .inl (false, ((.ofNat 1), []))], [zc262,
    zc51,
    zc52,
    zc255,
    zc253,
    zc253,
    zc253,
    .inr (1, .inr (.inl 70)),
    .inr (1, .inr (.inl 8)),
    zc54,
    zc55,
    zc56,
    zc57,
    zc111,
    .inr (1, .inr (.inl 4))], [(2, [1], []), (1, [1], [])]), symsL 18 0, some ((.ofNat 153), [(0, (.negSucc 0)), (1, (.negSucc 0))]), 0, 0)
noncomputable def c162_0_p7 : PE := (1, [0, 1], (18, [(0, (.ofNat 0), (.ofNat 69)), (1, (.ofNat 15), (.ofNat 69)), (2, (.ofNat 0), (.ofNat 8)), (3, (.negSucc 2147483647), (.ofNat 2147483647)), (4, (.negSucc 2147483647), (.ofNat 2147483647)), (5, (.negSucc 2147483647), (.ofNat 2147483647)), (6, (.negSucc 2147483647), (.ofNat 2147483647)), (7, (.negSucc 2147483647), (.ofNat 2147483647)), (8, (.negSucc 2147483647), (.ofNat 2147483647)), (9, (.negSucc 2147483647), (.ofNat 2147483647))], [((.negSucc 68), [(0, (.ofNat 1)), (1, (.ofNat 1))]), ((.negSucc 69), [(0, (.ofNat 1)), (1, (.ofNat 1))]), ((.negSucc 83), [(0, (.ofNat 1)), (1, (.ofNat 1))]), ((.negSucc 84), [(0, (.ofNat 1)), (1, (.ofNat 1))])], [.inr (.inl (some 0)), .inr (.inl (some 0)), .inl (false, ((.ofNat 1), []))], [zc263,
    zc51,
    zc52,
    zc255,
    zc253,
    zc253,
    zc253,
    .inr (1, .inr (.inl 70)),
    .inr (1, .inr (.inl 8)),
    zc54,
    zc55,
    zc56,
    zc57,
    zc111,
    .inr (1, .inr (.inl 4))], [(2, [1], []), (1, [1], [])]), symsL 18 0, some ((.ofNat 154), [(0, (.negSucc 0)), (1, (.negSucc 0))]), 0, 0)
noncomputable def c162_0_p8 : PE := (1, [0, 1], (18, [(0, (.ofNat 0), (.ofNat 69)), (1, (.ofNat 16), (.ofNat 69)), (2, (.ofNat 0), (.ofNat 8)), (3, (.negSucc 2147483647), (.ofNat 2147483647)), (4, (.negSucc 2147483647), (.ofNat 2147483647)), (5, (.negSucc 2147483647), (.ofNat 2147483647)), (6, (.negSucc 2147483647), (.ofNat 2147483647)), (7, (.negSucc 2147483647), (.ofNat 2147483647)), (8, (.negSucc 2147483647), (.ofNat 2147483647)), (9, (.negSucc 2147483647), (.ofNat 2147483647))], [((.negSucc 68), [(0, (.ofNat 1)), (1, (.ofNat 1))]), ((.negSucc 69), [(0, (.ofNat 1)), (1, (.ofNat 1))]), ((.negSucc 84), [(0, (.ofNat 1)), (1, (.ofNat 1))]), ((.negSucc 85), [(0, (.ofNat 1)), (1, (.ofNat 1))])], [.inr (.inl (some 0)), .inr (.inl (some 0)), .inl (false, ((.ofNat 1), []))], [zc264,
    zc51,
    zc52,
    zc255,
    zc253,
    zc253,
    zc253,
    .inr (1, .inr (.inl 70)),
    .inr (1, .inr (.inl 8)),
    zc54,
    zc55,
    zc56,
    zc57,
    zc111,
    .inr (1, .inr (.inl 4))], [(2, [1], []), (1, [1], [])]), symsL 18 0, some ((.ofNat 155), [(0, (.negSucc 0)), (1, (.negSucc 0))]), 0, 0)
noncomputable def c162_0_p9 : PE := (1, [0, 1], (18, [(0, (.ofNat 0), (.ofNat 69)), (1, (.ofNat 17), (.ofNat 69)), (2, (.ofNat 0), (.ofNat 8)), (3, (.negSucc 2147483647), (.ofNat 2147483647)), (4, (.negSucc 2147483647), (.ofNat 2147483647)), (5, (.negSucc 2147483647), (.ofNat 2147483647)), (6, (.negSucc 2147483647), (.ofNat 2147483647)), (7, (.negSucc 2147483647), (.ofNat 2147483647)), (8, (.negSucc 2147483647), (.ofNat 2147483647)), (9, (.negSucc 2147483647), (.ofNat 2147483647))], [((.negSucc 68), [(0, (.ofNat 1)), (1, (.ofNat 1))]), ((.negSucc 69), [(0, (.ofNat 1)), (1, (.ofNat 1))]), ((.negSucc 85), [(0, (.ofNat 1)), (1, (.ofNat 1))]), ((.negSucc 86), [(0, (.ofNat 1)), (1, (.ofNat 1))])], [.inr (.inl (some 0)), .inr (.inl (some 0)), .inl (false, ((.ofNat 1), []))], [zc265,
    zc51,
    zc52,
    zc255,
    zc253,
    zc253,
    zc253,
    .inr (1, .inr (.inl 70)),
    .inr (1, .inr (.inl 8)),
    zc54,
    zc55,
    zc56,
    zc57,
    zc111,
    .inr (1, .inr (.inl 4))], [(2, [1], []), (1, [1], [])]), symsL 18 0, some ((.ofNat 156), [(0, (.negSucc 0)), (1, (.negSucc 0))]), 0, 0)
noncomputable def c162_0_p10 : PE := (1, [0, 1], (18, [(0, (.ofNat 0), (.ofNat 69)), (1, (.ofNat 18), (.ofNat 69)), (2, (.ofNat 0), (.ofNat 8)), (3, (.negSucc 2147483647), (.ofNat 2147483647)), (4, (.negSucc 2147483647), (.ofNat 2147483647)), (5, (.negSucc 2147483647), (.ofNat 2147483647)), (6, (.negSucc 2147483647), (.ofNat 2147483647)), (7, (.negSucc 2147483647), (.ofNat 2147483647)), (8, (.negSucc 2147483647), (.ofNat 2147483647)), (9, (.negSucc 2147483647), (.ofNat 2147483647))], [((.negSucc 68), [(0, (.ofNat 1)), (1, (.ofNat 1))]), ((.negSucc 69), [(0, (.ofNat 1)), (1, (.ofNat 1))]), ((.negSucc 86), [(0, (.ofNat 1)), (1, (.ofNat 1))]), ((.negSucc 87), [(0, (.ofNat 1)), (1, (.ofNat 1))])], [.inr (.inl (some 0)), .inr (.inl (some 0)), .inl (false, ((.ofNat 1), []))], [zc266,
    zc51,
    zc52,
    zc255,
    zc253,
    zc253,
    zc253,
    .inr (1, .inr (.inl 70)),
    .inr (1, .inr (.inl 8)),
    zc54,
    zc55,
    zc56,
    zc57,
    zc111,
    .inr (1, .inr (.inl 4))], [(2, [1], []), (1, [1], [])]), symsL 18 0, some ((.ofNat 157), [(0, (.negSucc 0)), (1, (.negSucc 0))]), 0, 0)
noncomputable def c162_0_p11 : PE := (1, [0, 1], (18, [(0, (.ofNat 0), (.ofNat 69)), (1, (.ofNat 19), (.ofNat 69)), (2, (.ofNat 0), (.ofNat 8)), (3, (.negSucc 2147483647), (.ofNat 2147483647)), (4, (.negSucc 2147483647), (.ofNat 2147483647)), (5, (.negSucc 2147483647), (.ofNat 2147483647)), (6, (.negSucc 2147483647), (.ofNat 2147483647)), (7, (.negSucc 2147483647), (.ofNat 2147483647)), (8, (.negSucc 2147483647), (.ofNat 2147483647)), (9, (.negSucc 2147483647), (.ofNat 2147483647))], [((.negSucc 68), [(0, (.ofNat 1)), (1, (.ofNat 1))]), ((.negSucc 69), [(0, (.ofNat 1)), (1, (.ofNat 1))]), ((.negSucc 87), [(0, (.ofNat 1)), (1, (.ofNat 1))]), ((.negSucc 88), [(0, (.ofNat 1)), (1, (.ofNat 1))])], [.inr (.inl (some 0)), .inr (.inl (some 0)), .inl (false, ((.ofNat 1), []))], [zc267,
    zc51,
    zc52,
    zc255,
    zc253,
    zc253,
    zc253,
    .inr (1, .inr (.inl 70)),
    .inr (1, .inr (.inl 8)),
    zc54,
    zc55,
    zc56,
    zc57,
    zc111,
    .inr (1, .inr (.inl 4))], [(2, [1], []), (1, [1], [])]), symsL 18 0, some ((.ofNat 158), [(0, (.negSucc 0)), (1, (.negSucc 0))]), 0, 0)
noncomputable def c162_0_p12 : PE := (1, [0, 1], (18, [(0, (.ofNat 0), (.ofNat 69)), (1, (.ofNat 2), (.ofNat 69)), (2, (.ofNat 0), (.ofNat 8)), (3, (.negSucc 2147483647), (.ofNat 2147483647)), (4, (.negSucc 2147483647), (.ofNat 2147483647)), (5, (.negSucc 2147483647), (.ofNat 2147483647)), (6, (.negSucc 2147483647), (.ofNat 2147483647)), (7, (.negSucc 2147483647), (.ofNat 2147483647)), (8, (.negSucc 2147483647), (.ofNat 2147483647)), (9, (.negSucc 2147483647), (.ofNat 2147483647))], [((.negSucc 68), [(0, (.ofNat 1)), (1, (.ofNat 1))]), ((.negSucc 69), [(0, (.ofNat 1)), (1, (.ofNat 1))]), ((.negSucc 70), [(0, (.ofNat 1)), (1, (.ofNat 1))]), ((.negSucc 71), [(0, (.ofNat 1)), (1, (.ofNat 1))])], [.inr (.inl (some 0)), .inr (.inl (some 0)), .inl (false, ((.ofNat 1), []))], [zc268,
    zc51,
    zc52,
    zc255,
    zc253,
    zc253,
    zc253,
    .inr (1, .inr (.inl 70)),
    .inr (1, .inr (.inl 8)),
    zc54,
    zc55,
    zc56,
    zc57,
    zc111,
    .inr (1, .inr (.inl 4))], [(2, [1], []), (1, [1], [])]), symsL 18 0, some ((.ofNat 141), [(0, (.negSucc 0)), (1, (.negSucc 0))]), 0, 0)
noncomputable def c162_0_p13 : PE := (1, [0, 1], (18, [(0, (.ofNat 0), (.ofNat 69)), (1, (.ofNat 20), (.ofNat 69)), (2, (.ofNat 0), (.ofNat 8)), (3, (.negSucc 2147483647), (.ofNat 2147483647)), (4, (.negSucc 2147483647), (.ofNat 2147483647)), (5, (.negSucc 2147483647), (.ofNat 2147483647)), (6, (.negSucc 2147483647), (.ofNat 2147483647)), (7, (.negSucc 2147483647), (.ofNat 2147483647)), (8, (.negSucc 2147483647), (.ofNat 2147483647)), (9, (.negSucc 2147483647), (.ofNat 2147483647))], [((.negSucc 68), [(0, (.ofNat 1)), (1, (.ofNat 1))]), ((.negSucc 69), [(0, (.ofNat 1)), (1, (.ofNat 1))]), ((.negSucc 88), [(0, (.ofNat 1)), (1, (.ofNat 1))]), ((.negSucc 89), [(0, (.ofNat 1)), (1, (.ofNat 1))])], [.inr (.inl (some 0)), .inr (.inl (some 0)), .inl (false, ((.ofNat 1), []))], [zc269,
    zc51,
    zc52,
    zc255,
    zc253,
    zc253,
    zc253,
    .inr (1, .inr (.inl 70)),
    .inr (1, .inr (.inl 8)),
    zc54,
    zc55,
    zc56,
    zc57,
    zc111,
    .inr (1, .inr (.inl 4))], [(2, [1], []), (1, [1], [])]), symsL 18 0, some ((.ofNat 159), [(0, (.negSucc 0)), (1, (.negSucc 0))]), 0, 0)
noncomputable def c162_0_p14 : PE := (1, [0, 1], (18, [(0, (.ofNat 0), (.ofNat 69)), (1, (.ofNat 21), (.ofNat 69)), (2, (.ofNat 0), (.ofNat 8)), (3, (.negSucc 2147483647), (.ofNat 2147483647)), (4, (.negSucc 2147483647), (.ofNat 2147483647)), (5, (.negSucc 2147483647), (.ofNat 2147483647)), (6, (.negSucc 2147483647), (.ofNat 2147483647)), (7, (.negSucc 2147483647), (.ofNat 2147483647)), (8, (.negSucc 2147483647), (.ofNat 2147483647)), (9, (.negSucc 2147483647), (.ofNat 2147483647))], [((.negSucc 68), [(0, (.ofNat 1)), (1, (.ofNat 1))]), ((.negSucc 69), [(0, (.ofNat 1)), (1, (.ofNat 1))]), ((.negSucc 89), [(0, (.ofNat 1)), (1, (.ofNat 1))]), ((.negSucc 90), [(0, (.ofNat 1)), (1, (.ofNat 1))])], [.inr (.inl (some 0)), .inr (.inl (some 0)), .inl (false, ((.ofNat 1), []))], [zc270,
    zc51,
    zc52,
    zc255,
    zc253,
    zc253,
    zc253,
    .inr (1, .inr (.inl 70)),
    .inr (1, .inr (.inl 8)),
    zc54,
    zc55,
    zc56,
    zc57,
    zc111,
    .inr (1, .inr (.inl 4))], [(2, [1], []), (1, [1], [])]), symsL 18 0, some ((.ofNat 160), [(0, (.negSucc 0)), (1, (.negSucc 0))]), 0, 0)
noncomputable def c162_0_p15 : PE := (1, [0, 1], (18, [(0, (.ofNat 0), (.ofNat 69)), (1, (.ofNat 22), (.ofNat 69)), (2, (.ofNat 0), (.ofNat 8)), (3, (.negSucc 2147483647), (.ofNat 2147483647)), (4, (.negSucc 2147483647), (.ofNat 2147483647)), (5, (.negSucc 2147483647), (.ofNat 2147483647)), (6, (.negSucc 2147483647), (.ofNat 2147483647)), (7, (.negSucc 2147483647), (.ofNat 2147483647)), (8, (.negSucc 2147483647), (.ofNat 2147483647)), (9, (.negSucc 2147483647), (.ofNat 2147483647))], [((.negSucc 68), [(0, (.ofNat 1)), (1, (.ofNat 1))]), ((.negSucc 69), [(0, (.ofNat 1)), (1, (.ofNat 1))]), ((.negSucc 90), [(0, (.ofNat 1)), (1, (.ofNat 1))]), ((.negSucc 91), [(0, (.ofNat 1)), (1, (.ofNat 1))])], [.inr (.inl (some 0)), .inr (.inl (some 0)), .inl (false, ((.ofNat 1), []))], [zc271,
    zc51,
    zc52,
    zc255,
    zc253,
    zc253,
    zc253,
    .inr (1, .inr (.inl 70)),
    .inr (1, .inr (.inl 8)),
    zc54,
    zc55,
    zc56,
    zc57,
    zc111,
    .inr (1, .inr (.inl 4))], [(2, [1], []), (1, [1], [])]), symsL 18 0, some ((.ofNat 161), [(0, (.negSucc 0)), (1, (.negSucc 0))]), 0, 0)
noncomputable def c162_0_p16 : PE := (1, [0, 1], (18, [(0, (.ofNat 0), (.ofNat 69)), (1, (.ofNat 23), (.ofNat 69)), (2, (.ofNat 0), (.ofNat 8)), (3, (.negSucc 2147483647), (.ofNat 2147483647)), (4, (.negSucc 2147483647), (.ofNat 2147483647)), (5, (.negSucc 2147483647), (.ofNat 2147483647)), (6, (.negSucc 2147483647), (.ofNat 2147483647)), (7, (.negSucc 2147483647), (.ofNat 2147483647)), (8, (.negSucc 2147483647), (.ofNat 2147483647)), (9, (.negSucc 2147483647), (.ofNat 2147483647))], [((.negSucc 68), [(0, (.ofNat 1)), (1, (.ofNat 1))]), ((.negSucc 69), [(0, (.ofNat 1)), (1, (.ofNat 1))]), ((.negSucc 91), [(0, (.ofNat 1)), (1, (.ofNat 1))]), ((.negSucc 92), [(0, (.ofNat 1)), (1, (.ofNat 1))])], [.inr (.inl (some 0)), .inr (.inl (some 0)), .inl (false, ((.ofNat 1), []))], [zc272,
    zc51,
    zc52,
    zc255,
    zc253,
    zc253,
    zc253,
    .inr (1, .inr (.inl 70)),
    .inr (1, .inr (.inl 8)),
    zc54,
    zc55,
    zc56,
    zc57,
    zc111,
    .inr (1, .inr (.inl 4))], [(2, [1], []), (1, [1], [])]), symsL 18 0, some ((.ofNat 162), [(0, (.negSucc 0)), (1, (.negSucc 0))]), 0, 0)
noncomputable def c162_0_p17 : PE := (1, [0, 1], (18, [(0, (.ofNat 0), (.ofNat 69)), (1, (.ofNat 24), (.ofNat 69)), (2, (.ofNat 0), (.ofNat 8)), (3, (.negSucc 2147483647), (.ofNat 2147483647)), (4, (.negSucc 2147483647), (.ofNat 2147483647)), (5, (.negSucc 2147483647), (.ofNat 2147483647)), (6, (.negSucc 2147483647), (.ofNat 2147483647)), (7, (.negSucc 2147483647), (.ofNat 2147483647)), (8, (.negSucc 2147483647), (.ofNat 2147483647)), (9, (.negSucc 2147483647), (.ofNat 2147483647))], [((.negSucc 68), [(0, (.ofNat 1)), (1, (.ofNat 1))]), ((.negSucc 69), [(0, (.ofNat 1)), (1, (.ofNat 1))]), ((.negSucc 92), [(0, (.ofNat 1)), (1, (.ofNat 1))]), ((.negSucc 93), [(0, (.ofNat 1)), (1, (.ofNat 1))])], [.inr (.inl (some 0)), .inr (.inl (some 0)), .inl (false, ((.ofNat 1), []))], [zc273,
    zc51,
    zc52,
    zc255,
    zc253,
    zc253,
    zc253,
    .inr (1, .inr (.inl 70)),
    .inr (1, .inr (.inl 8)),
    zc54,
    zc55,
    zc56,
    zc57,
    zc111,
    .inr (1, .inr (.inl 4))], [(2, [1], []), (1, [1], [])]), symsL 18 0, some ((.ofNat 163), [(0, (.negSucc 0)), (1, (.negSucc 0))]), 0, 0)
noncomputable def c162_0_p18 : PE := (1, [0, 1], (18, [(0, (.ofNat 0), (.ofNat 69)), (1, (.ofNat 25), (.ofNat 69)), (2, (.ofNat 0), (.ofNat 8)), (3, (.negSucc 2147483647), (.ofNat 2147483647)), (4, (.negSucc 2147483647), (.ofNat 2147483647)), (5, (.negSucc 2147483647), (.ofNat 2147483647)), (6, (.negSucc 2147483647), (.ofNat 2147483647)), (7, (.negSucc 2147483647), (.ofNat 2147483647)), (8, (.negSucc 2147483647), (.ofNat 2147483647)), (9, (.negSucc 2147483647), (.ofNat 2147483647))], [((.negSucc 68), [(0, (.ofNat 1)), (1, (.ofNat 1))]), ((.negSucc 69), [(0, (.ofNat 1)), (1, (.ofNat 1))]), ((.negSucc 93), [(0, (.ofNat 1)), (1, (.ofNat 1))]), ((.negSucc 94), [(0, (.ofNat 1)), (1, (.ofNat 1))])], [.inr (.inl (some 0)), .inr (.inl (some 0)), .inl (false, ((.ofNat 1), []))], [zc274,
    zc51,
    zc52,
    zc255,
    zc253,
    zc253,
    zc253,
    .inr (1, .inr (.inl 70)),
    .inr (1, .inr (.inl 8)),
    zc54,
    zc55,
    zc56,
    zc57,
    zc111,
    .inr (1, .inr (.inl 4))], [(2, [1], []), (1, [1], [])]), symsL 18 0, some ((.ofNat 164), [(0, (.negSucc 0)), (1, (.negSucc 0))]), 0, 0)
noncomputable def c162_0_p19 : PE := (1, [0, 1], (18, [(0, (.ofNat 0), (.ofNat 69)), (1, (.ofNat 26), (.ofNat 69)), (2, (.ofNat 0), (.ofNat 8)), (3, (.negSucc 2147483647), (.ofNat 2147483647)), (4, (.negSucc 2147483647), (.ofNat 2147483647)), (5, (.negSucc 2147483647), (.ofNat 2147483647)), (6, (.negSucc 2147483647), (.ofNat 2147483647)), (7, (.negSucc 2147483647), (.ofNat 2147483647)), (8, (.negSucc 2147483647), (.ofNat 2147483647)), (9, (.negSucc 2147483647), (.ofNat 2147483647))], [((.negSucc 68), [(0, (.ofNat 1)), (1, (.ofNat 1))]), ((.negSucc 69), [(0, (.ofNat 1)), (1, (.ofNat 1))]), ((.negSucc 94), [(0, (.ofNat 1)), (1, (.ofNat 1))]), ((.negSucc 95), [(0, (.ofNat 1)), (1, (.ofNat 1))])], [.inr (.inl (some 0)), .inr (.inl (some 0)), .inl (false, ((.ofNat 1), []))], [zc275,
    zc51,
    zc52,
    zc255,
    zc253,
    zc253,
    zc253,
    .inr (1, .inr (.inl 70)),
    .inr (1, .inr (.inl 8)),
    zc54,
    zc55,
    zc56,
    zc57,
    zc111,
    .inr (1, .inr (.inl 4))], [(2, [1], []), (1, [1], [])]), symsL 18 0, some ((.ofNat 165), [(0, (.negSucc 0)), (1, (.negSucc 0))]), 0, 0)
noncomputable def c162_0_p20 : PE := (1, [0, 1], (18, [(0, (.ofNat 0), (.ofNat 69)), (1, (.ofNat 27), (.ofNat 69)), (2, (.ofNat 0), (.ofNat 8)), (3, (.negSucc 2147483647), (.ofNat 2147483647)), (4, (.negSucc 2147483647), (.ofNat 2147483647)), (5, (.negSucc 2147483647), (.ofNat 2147483647)), (6, (.negSucc 2147483647), (.ofNat 2147483647)), (7, (.negSucc 2147483647), (.ofNat 2147483647)), (8, (.negSucc 2147483647), (.ofNat 2147483647)), (9, (.negSucc 2147483647), (.ofNat 2147483647))], [((.negSucc 68), [(0, (.ofNat 1)), (1, (.ofNat 1))]), ((.negSucc 69), [(0, (.ofNat 1)), (1, (.ofNat 1))]), ((.negSucc 95), [(0, (.ofNat 1)), (1, (.ofNat 1))]), ((.negSucc 96), [(0, (.ofNat 1)), (1, (.ofNat 1))])], [.inr (.inl (some 0)), .inr (.inl (some 0)), .inl (false, ((.ofNat 1), []))], [zc276,
    zc51,
    zc52,
    zc255,
    zc253,
    zc253,
    zc253,
    .inr (1, .inr (.inl 70)),
    .inr (1, .inr (.inl 8)),
    zc54,
    zc55,
    zc56,
    zc57,
    zc111,
    .inr (1, .inr (.inl 4))], [(2, [1], []), (1, [1], [])]), symsL 18 0, some ((.ofNat 166), [(0, (.negSucc 0)), (1, (.negSucc 0))]), 0, 0)
noncomputable def c162_0_p21 : PE := (1, [0, 1], (18, [(0, (.ofNat 0), (.ofNat 69)), (1, (.ofNat 28), (.ofNat 69)), (2, (.ofNat 0), (.ofNat 8)), (3, (.negSucc 2147483647), (.ofNat 2147483647)), (4, (.negSucc 2147483647), (.ofNat 2147483647)), (5, (.negSucc 2147483647), (.ofNat 2147483647)), (6, (.negSucc 2147483647), (.ofNat 2147483647)), (7, (.negSucc 2147483647), (.ofNat 2147483647)), (8, (.negSucc 2147483647), (.ofNat 2147483647)), (9, (.negSucc 2147483647), (.ofNat 2147483647))], [((.negSucc 68), [(0, (.ofNat 1)), (1, (.ofNat 1))]), ((.negSucc 69), [(0, (.ofNat 1)), (1, (.ofNat 1))]), ((.negSucc 96), [(0, (.ofNat 1)), (1, (.ofNat 1))]), ((.negSucc 97), [(0, (.ofNat 1)), (1, (.ofNat 1))])], [.inr (.inl (some 0)), .inr (.inl (some 0)), .inl (false, ((.ofNat 1), []))], [zc277,
    zc51,
    zc52,
    zc255,
    zc253,
    zc253,
    zc253,
    .inr (1, .inr (.inl 70)),
    .inr (1, .inr (.inl 8)),
    zc54,
    zc55,
    zc56,
    zc57,
    zc111,
    .inr (1, .inr (.inl 4))], [(2, [1], []), (1, [1], [])]), symsL 18 0, some ((.ofNat 167), [(0, (.negSucc 0)), (1, (.negSucc 0))]), 0, 0)
noncomputable def c162_0_p22 : PE := (1, [0, 1], (18, [(0, (.ofNat 0), (.ofNat 69)), (1, (.ofNat 29), (.ofNat 69)), (2, (.ofNat 0), (.ofNat 8)), (3, (.negSucc 2147483647), (.ofNat 2147483647)), (4, (.negSucc 2147483647), (.ofNat 2147483647)), (5, (.negSucc 2147483647), (.ofNat 2147483647)), (6, (.negSucc 2147483647), (.ofNat 2147483647)), (7, (.negSucc 2147483647), (.ofNat 2147483647)), (8, (.negSucc 2147483647), (.ofNat 2147483647)), (9, (.negSucc 2147483647), (.ofNat 2147483647))], [((.negSucc 68), [(0, (.ofNat 1)), (1, (.ofNat 1))]), ((.negSucc 69), [(0, (.ofNat 1)), (1, (.ofNat 1))]), ((.negSucc 97), [(0, (.ofNat 1)), (1, (.ofNat 1))]), ((.negSucc 98), [(0, (.ofNat 1)), (1, (.ofNat 1))])], [.inr (.inl (some 0)), .inr (.inl (some 0)), .inl (false, ((.ofNat 1), []))], [zc278,
    zc51,
    zc52,
    zc255,
    zc253,
    zc253,
    zc253,
    .inr (1, .inr (.inl 70)),
    .inr (1, .inr (.inl 8)),
    zc54,
    zc55,
    zc56,
    zc57,
    zc111,
    .inr (1, .inr (.inl 4))], [(2, [1], []), (1, [1], [])]), symsL 18 0, some ((.ofNat 168), [(0, (.negSucc 0)), (1, (.negSucc 0))]), 0, 0)
noncomputable def c162_0_p23 : PE := (1, [0, 1], (18, [(0, (.ofNat 0), (.ofNat 69)), (1, (.ofNat 3), (.ofNat 69)), (2, (.ofNat 0), (.ofNat 8)), (3, (.negSucc 2147483647), (.ofNat 2147483647)), (4, (.negSucc 2147483647), (.ofNat 2147483647)), (5, (.negSucc 2147483647), (.ofNat 2147483647)), (6, (.negSucc 2147483647), (.ofNat 2147483647)), (7, (.negSucc 2147483647), (.ofNat 2147483647)), (8, (.negSucc 2147483647), (.ofNat 2147483647)), (9, (.negSucc 2147483647), (.ofNat 2147483647))], [((.negSucc 68), [(0, (.ofNat 1)), (1, (.ofNat 1))]), ((.negSucc 69), [(0, (.ofNat 1)), (1, (.ofNat 1))]), ((.negSucc 71), [(0, (.ofNat 1)), (1, (.ofNat 1))]), ((.negSucc 72), [(0, (.ofNat 1)), (1, (.ofNat 1))])], [.inr (.inl (some 0)), .inr (.inl (some 0)), .inl (false, ((.ofNat 1), []))], [zc279,
    zc51,
    zc52,
    zc255,
    zc253,
    zc253,
    zc253,
    .inr (1, .inr (.inl 70)),
    .inr (1, .inr (.inl 8)),
    zc54,
    zc55,
    zc56,
    zc57,
    zc111,
    .inr (1, .inr (.inl 4))], [(2, [1], []), (1, [1], [])]), symsL 18 0, some ((.ofNat 142), [(0, (.negSucc 0)), (1, (.negSucc 0))]), 0, 0)
noncomputable def c162_0_p24 : PE := (1, [0, 1], (18, [(0, (.ofNat 0), (.ofNat 69)), (1, (.ofNat 30), (.ofNat 69)), (2, (.ofNat 0), (.ofNat 8)), (3, (.negSucc 2147483647), (.ofNat 2147483647)), (4, (.negSucc 2147483647), (.ofNat 2147483647)), (5, (.negSucc 2147483647), (.ofNat 2147483647)), (6, (.negSucc 2147483647), (.ofNat 2147483647)), (7, (.negSucc 2147483647), (.ofNat 2147483647)), (8, (.negSucc 2147483647), (.ofNat 2147483647)), (9, (.negSucc 2147483647), (.ofNat 2147483647))], [((.negSucc 68), [(0, (.ofNat 1)), (1, (.ofNat 1))]), ((.negSucc 69), [(0, (.ofNat 1)), (1, (.ofNat 1))]), ((.negSucc 98), [(0, (.ofNat 1)), (1, (.ofNat 1))]), ((.negSucc 99), [(0, (.ofNat 1)), (1, (.ofNat 1))])], [.inr (.inl (some 0)), .inr (.inl (some 0)), .inl (false, ((.ofNat 1), []))], [zc280,
    zc51,
    zc52,
    zc255,
    zc253,
    zc253,
    zc253,
    .inr (1, .inr (.inl 70)),
    .inr (1, .inr (.inl 8)),
    zc54,
    zc55,
    zc56,
    zc57,
    zc111,
    .inr (1, .inr (.inl 4))], [(2, [1], []), (1, [1], [])]), symsL 18 0, some ((.ofNat 169), [(0, (.negSucc 0)), (1, (.negSucc 0))]), 0, 0)
noncomputable def c162_0_p25 : PE := (1, [0, 1], (18, [(0, (.ofNat 0), (.ofNat 69)), (1, (.ofNat 31), (.ofNat 69)), (2, (.ofNat 0), (.ofNat 8)), (3, (.negSucc 2147483647), (.ofNat 2147483647)), (4, (.negSucc 2147483647), (.ofNat 2147483647)), (5, (.negSucc 2147483647), (.ofNat 2147483647)), (6, (.negSucc 2147483647), (.ofNat 2147483647)), (7, (.negSucc 2147483647), (.ofNat 2147483647)), (8, (.negSucc 2147483647), (.ofNat 2147483647)), (9, (.negSucc 2147483647), (.ofNat 2147483647))], [((.negSucc 68), [(0, (.ofNat 1)), (1, (.ofNat 1))]), ((.negSucc 69), [(0, (.ofNat 1)), (1, (.ofNat 1))]), ((.negSucc 99), [(0, (.ofNat 1)), (1, (.ofNat 1))]), ((.negSucc 100), [(0, (.ofNat 1)), (1, (.ofNat 1))])], [.inr (.inl (some 0)), .inr (.inl (some 0)), .inl (false, ((.ofNat 1), []))], [zc281,
    zc51,
    zc52,
    zc255,
    zc253,
    zc253,
    zc253,
    .inr (1, .inr (.inl 70)),
    .inr (1, .inr (.inl 8)),
    zc54,
    zc55,
    zc56,
    zc57,
    zc111,
    .inr (1, .inr (.inl 4))], [(2, [1], []), (1, [1], [])]), symsL 18 0, some ((.ofNat 170), [(0, (.negSucc 0)), (1, (.negSucc 0))]), 0, 0)
noncomputable def c162_0_p26 : PE := (1, [0, 1], (18, [(0, (.ofNat 0), (.ofNat 69)), (1, (.ofNat 32), (.ofNat 69)), (2, (.ofNat 0), (.ofNat 8)), (3, (.negSucc 2147483647), (.ofNat 2147483647)), (4, (.negSucc 2147483647), (.ofNat 2147483647)), (5, (.negSucc 2147483647), (.ofNat 2147483647)), (6, (.negSucc 2147483647), (.ofNat 2147483647)), (7, (.negSucc 2147483647), (.ofNat 2147483647)), (8, (.negSucc 2147483647), (.ofNat 2147483647)), (9, (.negSucc 2147483647), (.ofNat 2147483647))], [((.negSucc 68), [(0, (.ofNat 1)), (1, (.ofNat 1))]), ((.negSucc 69), [(0, (.ofNat 1)), (1, (.ofNat 1))]), ((.negSucc 100), [(0, (.ofNat 1)), (1, (.ofNat 1))]), ((.negSucc 101), [(0, (.ofNat 1)), (1, (.ofNat 1))])], [.inr (.inl (some 0)), .inr (.inl (some 0)), .inl (false, ((.ofNat 1), []))], [zc282,
    zc51,
    zc52,
    zc255,
    zc253,
    zc253,
    zc253,
    .inr (1, .inr (.inl 70)),
    .inr (1, .inr (.inl 8)),
    zc54,
    zc55,
    zc56,
    zc57,
    zc111,
    .inr (1, .inr (.inl 4))], [(2, [1], []), (1, [1], [])]), symsL 18 0, some ((.ofNat 171), [(0, (.negSucc 0)), (1, (.negSucc 0))]), 0, 0)
noncomputable def c162_0_p27 : PE := (1, [0, 1], (18, [(0, (.ofNat 0), (.ofNat 69)), (1, (.ofNat 33), (.ofNat 69)), (2, (.ofNat 0), (.ofNat 8)), (3, (.negSucc 2147483647), (.ofNat 2147483647)), (4, (.negSucc 2147483647), (.ofNat 2147483647)), (5, (.negSucc 2147483647), (.ofNat 2147483647)), (6, (.negSucc 2147483647), (.ofNat 2147483647)), (7, (.negSucc 2147483647), (.ofNat 2147483647)), (8, (.negSucc 2147483647), (.ofNat 2147483647)), (9, (.negSucc 2147483647), (.ofNat 2147483647))], [((.negSucc 68), [(0, (.ofNat 1)), (1, (.ofNat 1))]), ((.negSucc 69), [(0, (.ofNat 1)), (1, (.ofNat 1))]), ((.negSucc 101), [(0, (.ofNat 1)), (1, (.ofNat 1))]), ((.negSucc 102), [(0, (.ofNat 1)), (1, (.ofNat 1))])], [.inr (.inl (some 0)), .inr (.inl (some 0)), .inl (false, ((.ofNat 1), []))], [zc283,
    zc51,
    zc52,
    zc255,
    zc253,
    zc253,
    zc253,
    .inr (1, .inr (.inl 70)),
    .inr (1, .inr (.inl 8)),
    zc54,
    zc55,
    zc56,
    zc57,
    zc111,
    .inr (1, .inr (.inl 4))], [(2, [1], []), (1, [1], [])]), symsL 18 0, some ((.ofNat 172), [(0, (.negSucc 0)), (1, (.negSucc 0))]), 0, 0)
noncomputable def c162_0_p28 : PE := (1, [0, 1], (18, [(0, (.ofNat 0), (.ofNat 69)), (1, (.ofNat 34), (.ofNat 69)), (2, (.ofNat 0), (.ofNat 8)), (3, (.negSucc 2147483647), (.ofNat 2147483647)), (4, (.negSucc 2147483647), (.ofNat 2147483647)), (5, (.negSucc 2147483647), (.ofNat 2147483647)), (6, (.negSucc 2147483647), (.ofNat 2147483647)), (7, (.negSucc 2147483647), (.ofNat 2147483647)), (8, (.negSucc 2147483647), (.ofNat 2147483647)), (9, (.negSucc 2147483647), (.ofNat 2147483647))], [((.negSucc 68), [(0, (.ofNat 1)), (1, (.ofNat 1))]), ((.negSucc 69), [(0, (.ofNat 1)), (1, (.ofNat 1))]), ((.negSucc 102), [(0, (.ofNat 1)), (1, (.ofNat 1))]), ((.negSucc 103), [(0, (.ofNat 1)), (1, (.ofNat 1))])], [.inr (.inl (some 0)), .inr (.inl (some 0)), .inl (false, ((.ofNat 1), []))], [zc284,
    zc51,
    zc52,
    zc255,
    zc253,
    zc253,
    zc253,
    .inr (1, .inr (.inl 70)),
    .inr (1, .inr (.inl 8)),
    zc54,
    zc55,
    zc56,
    zc57,
    zc111,
    .inr (1, .inr (.inl 4))], [(2, [1], []), (1, [1], [])]), symsL 18 0, some ((.ofNat 173), [(0, (.negSucc 0)), (1, (.negSucc 0))]), 0, 0)
noncomputable def c162_0_p29 : PE := (1, [0, 1], (18, [(0, (.ofNat 0), (.ofNat 69)), (1, (.ofNat 35), (.ofNat 69)), (2, (.ofNat 0), (.ofNat 8)), (3, (.negSucc 2147483647), (.ofNat 2147483647)), (4, (.negSucc 2147483647), (.ofNat 2147483647)), (5, (.negSucc 2147483647), (.ofNat 2147483647)), (6, (.negSucc 2147483647), (.ofNat 2147483647)), (7, (.negSucc 2147483647), (.ofNat 2147483647)), (8, (.negSucc 2147483647), (.ofNat 2147483647)), (9, (.negSucc 2147483647), (.ofNat 2147483647))], [((.negSucc 68), [(0, (.ofNat 1)), (1, (.ofNat 1))]), ((.negSucc 69), [(0, (.ofNat 1)), (1, (.ofNat 1))]), ((.negSucc 103), [(0, (.ofNat 1)), (1, (.ofNat 1))]), ((.negSucc 104), [(0, (.ofNat 1)), (1, (.ofNat 1))])], [.inr (.inl (some 0)), .inr (.inl (some 0)), .inl (false, ((.ofNat 1), []))], [zc285,
    zc51,
    zc52,
    zc255,
    zc253,
    zc253,
    zc253,
    .inr (1, .inr (.inl 70)),
    .inr (1, .inr (.inl 8)),
    zc54,
    zc55,
    zc56,
    zc57,
    zc111,
    .inr (1, .inr (.inl 4))], [(2, [1], []), (1, [1], [])]), symsL 18 0, some ((.ofNat 174), [(0, (.negSucc 0)), (1, (.negSucc 0))]), 0, 0)
noncomputable def c162_0_p30 : PE := (1, [0, 1], (18, [(0, (.ofNat 0), (.ofNat 69)), (1, (.ofNat 36), (.ofNat 69)), (2, (.ofNat 0), (.ofNat 8)), (3, (.negSucc 2147483647), (.ofNat 2147483647)), (4, (.negSucc 2147483647), (.ofNat 2147483647)), (5, (.negSucc 2147483647), (.ofNat 2147483647)), (6, (.negSucc 2147483647), (.ofNat 2147483647)), (7, (.negSucc 2147483647), (.ofNat 2147483647)), (8, (.negSucc 2147483647), (.ofNat 2147483647)), (9, (.negSucc 2147483647), (.ofNat 2147483647))], [((.negSucc 68), [(0, (.ofNat 1)), (1, (.ofNat 1))]), ((.negSucc 69), [(0, (.ofNat 1)), (1, (.ofNat 1))]), ((.negSucc 104), [(0, (.ofNat 1)), (1, (.ofNat 1))]), ((.negSucc 105), [(0, (.ofNat 1)), (1, (.ofNat 1))])], [.inr (.inl (some 0)), .inr (.inl (some 0)), .inl (false, ((.ofNat 1), []))], [zc286,
    zc51,
    zc52,
    zc255,
    zc253,
    zc253,
    zc253,
    .inr (1, .inr (.inl 70)),
    .inr (1, .inr (.inl 8)),
    zc54,
    zc55,
    zc56,
    zc57,
    zc111,
    .inr (1, .inr (.inl 4))], [(2, [1], []), (1, [1], [])]), symsL 18 0, some ((.ofNat 175), [(0, (.negSucc 0)), (1, (.negSucc 0))]), 0, 0)
noncomputable def c162_0_p31 : PE := (1, [0, 1], (18, [(0, (.ofNat 0), (.ofNat 69)), (1, (.ofNat 37), (.ofNat 69)), (2, (.ofNat 0), (.ofNat 8)), (3, (.negSucc 2147483647), (.ofNat 2147483647)), (4, (.negSucc 2147483647), (.ofNat 2147483647)), (5, (.negSucc 2147483647), (.ofNat 2147483647)), (6, (.negSucc 2147483647), (.ofNat 2147483647)), (7, (.negSucc 2147483647), (.ofNat 2147483647)), (8, (.negSucc 2147483647), (.ofNat 2147483647)), (9, (.negSucc 2147483647), (.ofNat 2147483647))], [((.negSucc 68), [(0, (.ofNat 1)), (1, (.ofNat 1))]), ((.negSucc 69), [(0, (.ofNat 1)), (1, (.ofNat 1))]), ((.negSucc 105), [(0, (.ofNat 1)), (1, (.ofNat 1))]), ((.negSucc 106), [(0, (.ofNat 1)), (1, (.ofNat 1))])], [.inr (.inl (some 0)), .inr (.inl (some 0)), .inl (false, ((.ofNat 1), []))], [zc287,
    zc51,
    zc52,
    zc255,
    zc253,
    zc253,
    zc253,
    .inr (1, .inr (.inl 70)),
    .inr (1, .inr (.inl 8)),
    zc54,
    zc55,
    zc56,
    zc57,
    zc111,
    .inr (1, .inr (.inl 4))], [(2, [1], []), (1, [1], [])]), symsL 18 0, some ((.ofNat 176), [(0, (.negSucc 0)), (1, (.negSucc 0))]), 0, 0)
noncomputable def c162_0_p32 : PE := (1, [0, 1], (18, [(0, (.ofNat 0), (.ofNat 69)), (1, (.ofNat 38), (.ofNat 69)), (2, (.ofNat 0), (.ofNat 8)), (3, (.negSucc 2147483647), (.ofNat 2147483647)), (4, (.negSucc 2147483647), (.ofNat 2147483647)), (5, (.negSucc 2147483647), (.ofNat 2147483647)), (6, (.negSucc 2147483647), (.ofNat 2147483647)), (7, (.negSucc 2147483647), (.ofNat 2147483647)), (8, (.negSucc 2147483647), (.ofNat 2147483647)), (9, (.negSucc 2147483647), (.ofNat 2147483647))], [((.negSucc 68), [(0, (.ofNat 1)), (1, (.ofNat 1))]), ((.negSucc 69), [(0, (.ofNat 1)), (1, (.ofNat 1))]), ((.negSucc 106), [(0, (.ofNat 1)), (1, (.ofNat 1))]), ((.negSucc 107), [(0, (.ofNat 1)), (1, (.ofNat 1))])], [.inr (.inl (some 0)), .inr (.inl (some 0)), .inl (false, ((.ofNat 1), []))], [zc288,
    zc51,
    zc52,
    zc255,
    zc253,
    zc253,
    zc253,
    .inr (1, .inr (.inl 70)),
    .inr (1, .inr (.inl 8)),
    zc54,
    zc55,
    zc56,
    zc57,
    zc111,
    .inr (1, .inr (.inl 4))], [(2, [1], []), (1, [1], [])]), symsL 18 0, some ((.ofNat 177), [(0, (.negSucc 0)), (1, (.negSucc 0))]), 0, 0)
noncomputable def c162_0_p33 : PE := (1, [0, 1], (18, [(0, (.ofNat 0), (.ofNat 69)), (1, (.ofNat 39), (.ofNat 69)), (2, (.ofNat 0), (.ofNat 8)), (3, (.negSucc 2147483647), (.ofNat 2147483647)), (4, (.negSucc 2147483647), (.ofNat 2147483647)), (5, (.negSucc 2147483647), (.ofNat 2147483647)), (6, (.negSucc 2147483647), (.ofNat 2147483647)), (7, (.negSucc 2147483647), (.ofNat 2147483647)), (8, (.negSucc 2147483647), (.ofNat 2147483647)), (9, (.negSucc 2147483647), (.ofNat 2147483647))], [((.negSucc 68), [(0, (.ofNat 1)), (1, (.ofNat 1))]), ((.negSucc 69), [(0, (.ofNat 1)), (1, (.ofNat 1))]), ((.negSucc 107), [(0, (.ofNat 1)), (1, (.ofNat 1))]), ((.negSucc 108), [(0, (.ofNat 1)), (1, (.ofNat 1))])], [.inr (.inl (some 0)), .inr (.inl (some 0)), .inl (false, ((.ofNat 1), []))], [zc289,
    zc51,
    zc52,
    zc255,
    zc253,
    zc253,
    zc253,
    .inr (1, .inr (.inl 70)),
    .inr (1, .inr (.inl 8)),
    zc54,
    zc55,
    zc56,
    zc57,
    zc111,
    .inr (1, .inr (.inl 4))], [(2, [1], []), (1, [1], [])]), symsL 18 0, some ((.ofNat 178), [(0, (.negSucc 0)), (1, (.negSucc 0))]), 0, 0)
noncomputable def c162_0_p34 : PE := (1, [0, 1], (18, [(0, (.ofNat 0), (.ofNat 69)), (1, (.ofNat 4), (.ofNat 69)), (2, (.ofNat 0), (.ofNat 8)), (3, (.negSucc 2147483647), (.ofNat 2147483647)), (4, (.negSucc 2147483647), (.ofNat 2147483647)), (5, (.negSucc 2147483647), (.ofNat 2147483647)), (6, (.negSucc 2147483647), (.ofNat 2147483647)), (7, (.negSucc 2147483647), (.ofNat 2147483647)), (8, (.negSucc 2147483647), (.ofNat 2147483647)), (9, (.negSucc 2147483647), (.ofNat 2147483647))], [((.negSucc 68), [(0, (.ofNat 1)), (1, (.ofNat 1))]), ((.negSucc 69), [(0, (.ofNat 1)), (1, (.ofNat 1))]), ((.negSucc 72), [(0, (.ofNat 1)), (1, (.ofNat 1))]), ((.negSucc 73), [(0, (.ofNat 1)), (1, (.ofNat 1))])], [.inr (.inl (some 0)), .inr (.inl (some 0)), .inl (false, ((.ofNat 1), []))], [zc290,
    zc51,
    zc52,
    zc255,
    zc253,
    zc253,
    zc253,
    .inr (1, .inr (.inl 70)),
    .inr (1, .inr (.inl 8)),
    zc54,
    zc55,
    zc56,
    zc57,
    zc111,
    .inr (1, .inr (.inl 4))], [(2, [1], []), (1, [1], [])]), symsL 18 0, some ((.ofNat 143), [(0, (.negSucc 0)), (1, (.negSucc 0))]), 0, 0)
noncomputable def c162_0_p35 : PE := (1, [0, 1], (18, [(0, (.ofNat 0), (.ofNat 69)), (1, (.ofNat 40), (.ofNat 69)), (2, (.ofNat 0), (.ofNat 8)), (3, (.negSucc 2147483647), (.ofNat 2147483647)), (4, (.negSucc 2147483647), (.ofNat 2147483647)), (5, (.negSucc 2147483647), (.ofNat 2147483647)), (6, (.negSucc 2147483647), (.ofNat 2147483647)), (7, (.negSucc 2147483647), (.ofNat 2147483647)), (8, (.negSucc 2147483647), (.ofNat 2147483647)), (9, (.negSucc 2147483647), (.ofNat 2147483647))], [((.negSucc 68), [(0, (.ofNat 1)), (1, (.ofNat 1))]), ((.negSucc 69), [(0, (.ofNat 1)), (1, (.ofNat 1))]), ((.negSucc 108), [(0, (.ofNat 1)), (1, (.ofNat 1))]), ((.negSucc 109), [(0, (.ofNat 1)), (1, (.ofNat 1))])], [.inr (.inl (some 0)), .inr (.inl (some 0)), .inl (false, ((.ofNat 1), []))], [zc291,
    zc51,
    zc52,
    zc255,
    zc253,
    zc253,
    zc253,
    .inr (1, .inr (.inl 70)),
    .inr (1, .inr (.inl 8)),
    zc54,
    zc55,
    zc56,
    zc57,
    zc111,
    .inr (1, .inr (.inl 4))], [(2, [1], []), (1, [1], [])]), symsL 18 0, some ((.ofNat 179), [(0, (.negSucc 0)), (1, (.negSucc 0))]), 0, 0)
noncomputable def c162_0_p36 : PE := (1, [0, 1], (18, [(0, (.ofNat 0), (.ofNat 69)), (1, (.ofNat 41), (.ofNat 69)), (2, (.ofNat 0), (.ofNat 8)), (3, (.negSucc 2147483647), (.ofNat 2147483647)), (4, (.negSucc 2147483647), (.ofNat 2147483647)), (5, (.negSucc 2147483647), (.ofNat 2147483647)), (6, (.negSucc 2147483647), (.ofNat 2147483647)), (7, (.negSucc 2147483647), (.ofNat 2147483647)), (8, (.negSucc 2147483647), (.ofNat 2147483647)), (9, (.negSucc 2147483647), (.ofNat 2147483647))], [((.negSucc 68), [(0, (.ofNat 1)), (1, (.ofNat 1))]), ((.negSucc 69), [(0, (.ofNat 1)), (1, (.ofNat 1))]), ((.negSucc 109), [(0, (.ofNat 1)), (1, (.ofNat 1))]), ((.negSucc 110), [(0, (.ofNat 1)), (1, (.ofNat 1))])], [.inr (.inl (some 0)), .inr (.inl (some 0)), .inl (false, ((.ofNat 1), []))], [zc292,
    zc51,
    zc52,
    zc255,
    zc253,
    zc253,
    zc253,
    .inr (1, .inr (.inl 70)),
    .inr (1, .inr (.inl 8)),
    zc54,
    zc55,
    zc56,
    zc57,
    zc111,
    .inr (1, .inr (.inl 4))], [(2, [1], []), (1, [1], [])]), symsL 18 0, some ((.ofNat 180), [(0, (.negSucc 0)), (1, (.negSucc 0))]), 0, 0)
noncomputable def c162_0_p37 : PE := (1, [0, 1], (18, [(0, (.ofNat 0), (.ofNat 69)), (1, (.ofNat 42), (.ofNat 69)), (2, (.ofNat 0), (.ofNat 8)), (3, (.negSucc 2147483647), (.ofNat 2147483647)), (4, (.negSucc 2147483647), (.ofNat 2147483647)), (5, (.negSucc 2147483647), (.ofNat 2147483647)), (6, (.negSucc 2147483647), (.ofNat 2147483647)), (7, (.negSucc 2147483647), (.ofNat 2147483647)), (8, (.negSucc 2147483647), (.ofNat 2147483647)), (9, (.negSucc 2147483647), (.ofNat 2147483647))], [((.negSucc 68), [(0, (.ofNat 1)), (1, (.ofNat 1))]), ((.negSucc 69), [(0, (.ofNat 1)), (1, (.ofNat 1))]), ((.negSucc 110), [(0, (.ofNat 1)), (1, (.ofNat 1))]), ((.negSucc 111), [(0, (.ofNat 1)), (1, (.ofNat 1))])], [.inr (.inl (some 0)), .inr (.inl (some 0)), .inl (false, ((.ofNat 1), []))], [zc293,
    zc51,
    zc52,
    zc255,
    zc253,
    zc253,
    zc253,
    .inr (1, .inr (.inl 70)),
    .inr (1, .inr (.inl 8)),
    zc54,
    zc55,
    zc56,
    zc57,
    zc111,
    .inr (1, .inr (.inl 4))], [(2, [1], []), (1, [1], [])]), symsL 18 0, some ((.ofNat 181), [(0, (.negSucc 0)), (1, (.negSucc 0))]), 0, 0)
noncomputable def c162_0_p38 : PE := (1, [0, 1], (18, [(0, (.ofNat 0), (.ofNat 69)), (1, (.ofNat 43), (.ofNat 69)), (2, (.ofNat 0), (.ofNat 8)), (3, (.negSucc 2147483647), (.ofNat 2147483647)), (4, (.negSucc 2147483647), (.ofNat 2147483647)), (5, (.negSucc 2147483647), (.ofNat 2147483647)), (6, (.negSucc 2147483647), (.ofNat 2147483647)), (7, (.negSucc 2147483647), (.ofNat 2147483647)), (8, (.negSucc 2147483647), (.ofNat 2147483647)), (9, (.negSucc 2147483647), (.ofNat 2147483647))], [((.negSucc 68), [(0, (.ofNat 1)), (1, (.ofNat 1))]), ((.negSucc 69), [(0, (.ofNat 1)), (1, (.ofNat 1))]), ((.negSucc 111), [(0, (.ofNat 1)), (1, (.ofNat 1))]), ((.negSucc 112), [(0, (.ofNat 1)), (1, (.ofNat 1))])], [.inr (.inl (some 0)), .inr (.inl (some 0)), .inl (false, ((.ofNat 1), []))], [zc294,
    zc51,
    zc52,
    zc255,
    zc253,
    zc253,
    zc253,
    .inr (1, .inr (.inl 70)),
    .inr (1, .inr (.inl 8)),
    zc54,
    zc55,
    zc56,
    zc57,
    zc111,
    .inr (1, .inr (.inl 4))], [(2, [1], []), (1, [1], [])]), symsL 18 0, some ((.ofNat 182), [(0, (.negSucc 0)), (1, (.negSucc 0))]), 0, 0)
noncomputable def c162_0_p39 : PE := (1, [0, 1], (18, [(0, (.ofNat 0), (.ofNat 69)), (1, (.ofNat 44), (.ofNat 69)), (2, (.ofNat 0), (.ofNat 8)), (3, (.negSucc 2147483647), (.ofNat 2147483647)), (4, (.negSucc 2147483647), (.ofNat 2147483647)), (5, (.negSucc 2147483647), (.ofNat 2147483647)), (6, (.negSucc 2147483647), (.ofNat 2147483647)), (7, (.negSucc 2147483647), (.ofNat 2147483647)), (8, (.negSucc 2147483647), (.ofNat 2147483647)), (9, (.negSucc 2147483647), (.ofNat 2147483647))], [((.negSucc 68), [(0, (.ofNat 1)), (1, (.ofNat 1))]), ((.negSucc 69), [(0, (.ofNat 1)), (1, (.ofNat 1))]), ((.negSucc 112), [(0, (.ofNat 1)), (1, (.ofNat 1))]), ((.negSucc 113), [(0, (.ofNat 1)), (1, (.ofNat 1))])], [.inr (.inl (some 0)), .inr (.inl (some 0)), .inl (false, ((.ofNat 1), []))], [zc295,
    zc51,
    zc52,
    zc255,
    zc253,
    zc253,
    zc253,
    .inr (1, .inr (.inl 70)),
    .inr (1, .inr (.inl 8)),
    zc54,
    zc55,
    zc56,
    zc57,
    zc111,
    .inr (1, .inr (.inl 4))], [(2, [1], []), (1, [1], [])]), symsL 18 0, some ((.ofNat 183), [(0, (.negSucc 0)), (1, (.negSucc 0))]), 0, 0)
noncomputable def c162_0_p40 : PE := (1, [0, 1], (18, [(0, (.ofNat 0), (.ofNat 69)), (1, (.ofNat 45), (.ofNat 69)), (2, (.ofNat 0), (.ofNat 8)), (3, (.negSucc 2147483647), (.ofNat 2147483647)), (4, (.negSucc 2147483647), (.ofNat 2147483647)), (5, (.negSucc 2147483647), (.ofNat 2147483647)), (6, (.negSucc 2147483647), (.ofNat 2147483647)), (7, (.negSucc 2147483647), (.ofNat 2147483647)), (8, (.negSucc 2147483647), (.ofNat 2147483647)), (9, (.negSucc 2147483647), (.ofNat 2147483647))], [((.negSucc 68), [(0, (.ofNat 1)), (1, (.ofNat 1))]), ((.negSucc 69), [(0, (.ofNat 1)), (1, (.ofNat 1))]), ((.negSucc 113), [(0, (.ofNat 1)), (1, (.ofNat 1))]), ((.negSucc 114), [(0, (.ofNat 1)), (1, (.ofNat 1))])], [.inr (.inl (some 0)), .inr (.inl (some 0)), .inl (false, ((.ofNat 1), []))], [zc296,
    zc51,
    zc52,
    zc255,
    zc253,
    zc253,
    zc253,
    .inr (1, .inr (.inl 70)),
    .inr (1, .inr (.inl 8)),
    zc54,
    zc55,
    zc56,
    zc57,
    zc111,
    .inr (1, .inr (.inl 4))], [(2, [1], []), (1, [1], [])]), symsL 18 0, some ((.ofNat 184), [(0, (.negSucc 0)), (1, (.negSucc 0))]), 0, 0)
noncomputable def c162_0_p41 : PE := (1, [0, 1], (18, [(0, (.ofNat 0), (.ofNat 69)), (1, (.ofNat 46), (.ofNat 69)), (2, (.ofNat 0), (.ofNat 8)), (3, (.negSucc 2147483647), (.ofNat 2147483647)), (4, (.negSucc 2147483647), (.ofNat 2147483647)), (5, (.negSucc 2147483647), (.ofNat 2147483647)), (6, (.negSucc 2147483647), (.ofNat 2147483647)), (7, (.negSucc 2147483647), (.ofNat 2147483647)), (8, (.negSucc 2147483647), (.ofNat 2147483647)), (9, (.negSucc 2147483647), (.ofNat 2147483647))], [((.negSucc 68), [(0, (.ofNat 1)), (1, (.ofNat 1))]), ((.negSucc 69), [(0, (.ofNat 1)), (1, (.ofNat 1))]), ((.negSucc 114), [(0, (.ofNat 1)), (1, (.ofNat 1))]), ((.negSucc 115), [(0, (.ofNat 1)), (1, (.ofNat 1))])], [.inr (.inl (some 0)), .inr (.inl (some 0)), .inl (false, ((.ofNat 1), []))], [zc297,
    zc51,
    zc52,
    zc255,
    zc253,
    zc253,
    zc253,
    .inr (1, .inr (.inl 70)),
    .inr (1, .inr (.inl 8)),
    zc54,
    zc55,
    zc56,
    zc57,
    zc111,
    .inr (1, .inr (.inl 4))], [(2, [1], []), (1, [1], [])]), symsL 18 0, some ((.ofNat 185), [(0, (.negSucc 0)), (1, (.negSucc 0))]), 0, 0)
noncomputable def c162_0_p42 : PE := (1, [0, 1], (18, [(0, (.ofNat 0), (.ofNat 69)), (1, (.ofNat 47), (.ofNat 69)), (2, (.ofNat 0), (.ofNat 8)), (3, (.negSucc 2147483647), (.ofNat 2147483647)), (4, (.negSucc 2147483647), (.ofNat 2147483647)), (5, (.negSucc 2147483647), (.ofNat 2147483647)), (6, (.negSucc 2147483647), (.ofNat 2147483647)), (7, (.negSucc 2147483647), (.ofNat 2147483647)), (8, (.negSucc 2147483647), (.ofNat 2147483647)), (9, (.negSucc 2147483647), (.ofNat 2147483647))], [((.negSucc 68), [(0, (.ofNat 1)), (1, (.ofNat 1))]), ((.negSucc 69), [(0, (.ofNat 1)), (1, (.ofNat 1))]), ((.negSucc 115), [(0, (.ofNat 1)), (1, (.ofNat 1))]), ((.negSucc 116), [(0, (.ofNat 1)), (1, (.ofNat 1))])], [.inr (.inl (some 0)), .inr (.inl (some 0)), .inl (false, ((.ofNat 1), []))], [zc298,
    zc51,
    zc52,
    zc255,
    zc253,
    zc253,
    zc253,
    .inr (1, .inr (.inl 70)),
    .inr (1, .inr (.inl 8)),
    zc54,
    zc55,
    zc56,
    zc57,
    zc111,
    .inr (1, .inr (.inl 4))], [(2, [1], []), (1, [1], [])]), symsL 18 0, some ((.ofNat 186), [(0, (.negSucc 0)), (1, (.negSucc 0))]), 0, 0)
noncomputable def c162_0_p43 : PE := (1, [0, 1], (18, [(0, (.ofNat 0), (.ofNat 69)), (1, (.ofNat 48), (.ofNat 69)), (2, (.ofNat 0), (.ofNat 8)), (3, (.negSucc 2147483647), (.ofNat 2147483647)), (4, (.negSucc 2147483647), (.ofNat 2147483647)), (5, (.negSucc 2147483647), (.ofNat 2147483647)), (6, (.negSucc 2147483647), (.ofNat 2147483647)), (7, (.negSucc 2147483647), (.ofNat 2147483647)), (8, (.negSucc 2147483647), (.ofNat 2147483647)), (9, (.negSucc 2147483647), (.ofNat 2147483647))], [((.negSucc 68), [(0, (.ofNat 1)), (1, (.ofNat 1))]), ((.negSucc 69), [(0, (.ofNat 1)), (1, (.ofNat 1))]), ((.negSucc 116), [(0, (.ofNat 1)), (1, (.ofNat 1))]), ((.negSucc 117), [(0, (.ofNat 1)), (1, (.ofNat 1))])], [.inr (.inl (some 0)), .inr (.inl (some 0)), .inl (false, ((.ofNat 1), []))], [zc299,
    zc51,
    zc52,
    zc255,
    zc253,
    zc253,
    zc253,
    .inr (1, .inr (.inl 70)),
    .inr (1, .inr (.inl 8)),
    zc54,
    zc55,
    zc56,
    zc57,
    zc111,
    .inr (1, .inr (.inl 4))], [(2, [1], []), (1, [1], [])]), symsL 18 0, some ((.ofNat 187), [(0, (.negSucc 0)), (1, (.negSucc 0))]), 0, 0)
noncomputable def c162_0_p44 : PE := (1, [0, 1], (18, [(0, (.ofNat 0), (.ofNat 69)), (1, (.ofNat 49), (.ofNat 69)), (2, (.ofNat 0), (.ofNat 8)), (3, (.negSucc 2147483647), (.ofNat 2147483647)), (4, (.negSucc 2147483647), (.ofNat 2147483647)), (5, (.negSucc 2147483647), (.ofNat 2147483647)), (6, (.negSucc 2147483647), (.ofNat 2147483647)), (7, (.negSucc 2147483647), (.ofNat 2147483647)), (8, (.negSucc 2147483647), (.ofNat 2147483647)), (9, (.negSucc 2147483647), (.ofNat 2147483647))], [((.negSucc 68), [(0, (.ofNat 1)), (1, (.ofNat 1))]), ((.negSucc 69), [(0, (.ofNat 1)), (1, (.ofNat 1))]), ((.negSucc 117), [(0, (.ofNat 1)), (1, (.ofNat 1))]), ((.negSucc 118), [(0, (.ofNat 1)), (1, (.ofNat 1))])], [.inr (.inl (some 0)), .inr (.inl (some 0)), .inl (false, ((.ofNat 1), []))], [zc300,
    zc51,
    zc52,
    zc255,
    zc253,
    zc253,
    zc253,
    .inr (1, .inr (.inl 70)),
    .inr (1, .inr (.inl 8)),
    zc54,
    zc55,
    zc56,
    zc57,
    zc111,
    .inr (1, .inr (.inl 4))], [(2, [1], []), (1, [1], [])]), symsL 18 0, some ((.ofNat 188), [(0, (.negSucc 0)), (1, (.negSucc 0))]), 0, 0)
noncomputable def c162_0_p45 : PE := (1, [0, 1], (18, [(0, (.ofNat 0), (.ofNat 69)), (1, (.ofNat 5), (.ofNat 69)), (2, (.ofNat 0), (.ofNat 8)), (3, (.negSucc 2147483647), (.ofNat 2147483647)), (4, (.negSucc 2147483647), (.ofNat 2147483647)), (5, (.negSucc 2147483647), (.ofNat 2147483647)), (6, (.negSucc 2147483647), (.ofNat 2147483647)), (7, (.negSucc 2147483647), (.ofNat 2147483647)), (8, (.negSucc 2147483647), (.ofNat 2147483647)), (9, (.negSucc 2147483647), (.ofNat 2147483647))], [((.negSucc 68), [(0, (.ofNat 1)), (1, (.ofNat 1))]), ((.negSucc 69), [(0, (.ofNat 1)), (1, (.ofNat 1))]), ((.negSucc 73), [(0, (.ofNat 1)), (1, (.ofNat 1))]), ((.negSucc 74), [(0, (.ofNat 1)), (1, (.ofNat 1))])], [.inr (.inl (some 0)), .inr (.inl (some 0)), .inl (false, ((.ofNat 1), []))], [zc301,
    zc51,
    zc52,
    zc255,
    zc253,
    zc253,
    zc253,
    .inr (1, .inr (.inl 70)),
    .inr (1, .inr (.inl 8)),
    zc54,
    zc55,
    zc56,
    zc57,
    zc111,
    .inr (1, .inr (.inl 4))], [(2, [1], []), (1, [1], [])]), symsL 18 0, some ((.ofNat 144), [(0, (.negSucc 0)), (1, (.negSucc 0))]), 0, 0)
noncomputable def c162_0_p46 : PE := (1, [0, 1], (18, [(0, (.ofNat 0), (.ofNat 69)), (1, (.ofNat 50), (.ofNat 69)), (2, (.ofNat 0), (.ofNat 8)), (3, (.negSucc 2147483647), (.ofNat 2147483647)), (4, (.negSucc 2147483647), (.ofNat 2147483647)), (5, (.negSucc 2147483647), (.ofNat 2147483647)), (6, (.negSucc 2147483647), (.ofNat 2147483647)), (7, (.negSucc 2147483647), (.ofNat 2147483647)), (8, (.negSucc 2147483647), (.ofNat 2147483647)), (9, (.negSucc 2147483647), (.ofNat 2147483647))], [((.negSucc 68), [(0, (.ofNat 1)), (1, (.ofNat 1))]), ((.negSucc 69), [(0, (.ofNat 1)), (1, (.ofNat 1))]), ((.negSucc 118), [(0, (.ofNat 1)), (1, (.ofNat 1))]), ((.negSucc 119), [(0, (.ofNat 1)), (1, (.ofNat 1))])], [.inr (.inl (some 0)), .inr (.inl (some 0)), .inl (false, ((.ofNat 1), []))], [zc302,
    zc51,
    zc52,
    zc255,
    zc253,
    zc253,
    zc253,
    .inr (1, .inr (.inl 70)),
    .inr (1, .inr (.inl 8)),
    zc54,
    zc55,
    zc56,
    zc57,
    zc111,
    .inr (1, .inr (.inl 4))], [(2, [1], []), (1, [1], [])]), symsL 18 0, some ((.ofNat 189), [(0, (.negSucc 0)), (1, (.negSucc 0))]), 0, 0)
noncomputable def c162_0_p47 : PE := (1, [0, 1], (18, [(0, (.ofNat 0), (.ofNat 69)), (1, (.ofNat 51), (.ofNat 69)), (2, (.ofNat 0), (.ofNat 8)), (3, (.negSucc 2147483647), (.ofNat 2147483647)), (4, (.negSucc 2147483647), (.ofNat 2147483647)), (5, (.negSucc 2147483647), (.ofNat 2147483647)), (6, (.negSucc 2147483647), (.ofNat 2147483647)), (7, (.negSucc 2147483647), (.ofNat 2147483647)), (8, (.negSucc 2147483647), (.ofNat 2147483647)), (9, (.negSucc 2147483647), (.ofNat 2147483647))], [((.negSucc 68), [(0, (.ofNat 1)), (1, (.ofNat 1))]), ((.negSucc 69), [(0, (.ofNat 1)), (1, (.ofNat 1))]), ((.negSucc 119), [(0, (.ofNat 1)), (1, (.ofNat 1))]), ((.negSucc 120), [(0, (.ofNat 1)), (1, (.ofNat 1))])], [.inr (.inl (some 0)), .inr (.inl (some 0)), .inl (false, ((.ofNat 1), []))], [zc303,
    zc51,
    zc52,
    zc255,
    zc253,
    zc253,
    zc253,
    .inr (1, .inr (.inl 70)),
    .inr (1, .inr (.inl 8)),
    zc54,
    zc55,
    zc56,
    zc57,
    zc111,
    .inr (1, .inr (.inl 4))], [(2, [1], []), (1, [1], [])]), symsL 18 0, some ((.ofNat 190), [(0, (.negSucc 0)), (1, (.negSucc 0))]), 0, 0)
noncomputable def c162_0_p48 : PE := (1, [0, 1], (18, [(0, (.ofNat 0), (.ofNat 69)), (1, (.ofNat 52), (.ofNat 69)), (2, (.ofNat 0), (.ofNat 8)), (3, (.negSucc 2147483647), (.ofNat 2147483647)), (4, (.negSucc 2147483647), (.ofNat 2147483647)), (5, (.negSucc 2147483647), (.ofNat 2147483647)), (6, (.negSucc 2147483647), (.ofNat 2147483647)), (7, (.negSucc 2147483647), (.ofNat 2147483647)), (8, (.negSucc 2147483647), (.ofNat 2147483647)), (9, (.negSucc 2147483647), (.ofNat 2147483647))], [((.negSucc 68), [(0, (.ofNat 1)), (1, (.ofNat 1))]), ((.negSucc 69), [(0, (.ofNat 1)), (1, (.ofNat 1))]), ((.negSucc 120), [(0, (.ofNat 1)), (1, (.ofNat 1))]), ((.negSucc 121), [(0, (.ofNat 1)), (1, (.ofNat 1))])], [.inr (.inl (some 0)), .inr (.inl (some 0)), .inl (false, ((.ofNat 1), []))], [zc304,
    zc51,
    zc52,
    zc255,
    zc253,
    zc253,
    zc253,
    .inr (1, .inr (.inl 70)),
    .inr (1, .inr (.inl 8)),
    zc54,
    zc55,
    zc56,
    zc57,
    zc111,
    .inr (1, .inr (.inl 4))], [(2, [1], []), (1, [1], [])]), symsL 18 0, some ((.ofNat 191), [(0, (.negSucc 0)), (1, (.negSucc 0))]), 0, 0)
noncomputable def c162_0_p49 : PE := (1, [0, 1], (18, [(0, (.ofNat 0), (.ofNat 69)), (1, (.ofNat 53), (.ofNat 69)), (2, (.ofNat 0), (.ofNat 8)), (3, (.negSucc 2147483647), (.ofNat 2147483647)), (4, (.negSucc 2147483647), (.ofNat 2147483647)), (5, (.negSucc 2147483647), (.ofNat 2147483647)), (6, (.negSucc 2147483647), (.ofNat 2147483647)), (7, (.negSucc 2147483647), (.ofNat 2147483647)), (8, (.negSucc 2147483647), (.ofNat 2147483647)), (9, (.negSucc 2147483647), (.ofNat 2147483647))], [((.negSucc 68), [(0, (.ofNat 1)), (1, (.ofNat 1))]), ((.negSucc 69), [(0, (.ofNat 1)), (1, (.ofNat 1))]), ((.negSucc 121), [(0, (.ofNat 1)), (1, (.ofNat 1))]), ((.negSucc 122), [(0, (.ofNat 1)), (1, (.ofNat 1))])], [.inr (.inl (some 0)), .inr (.inl (some 0)), .inl (false, ((.ofNat 1), []))], [zc305,
    zc51,
    zc52,
    zc255,
    zc253,
    zc253,
    zc253,
    .inr (1, .inr (.inl 70)),
    .inr (1, .inr (.inl 8)),
    zc54,
    zc55,
    zc56,
    zc57,
    zc111,
    .inr (1, .inr (.inl 4))], [(2, [1], []), (1, [1], [])]), symsL 18 0, some ((.ofNat 192), [(0, (.negSucc 0)), (1, (.negSucc 0))]), 0, 0)
noncomputable def c162_0_p50 : PE := (1, [0, 1], (18, [(0, (.ofNat 0), (.ofNat 69)), (1, (.ofNat 54), (.ofNat 69)), (2, (.ofNat 0), (.ofNat 8)), (3, (.negSucc 2147483647), (.ofNat 2147483647)), (4, (.negSucc 2147483647), (.ofNat 2147483647)), (5, (.negSucc 2147483647), (.ofNat 2147483647)), (6, (.negSucc 2147483647), (.ofNat 2147483647)), (7, (.negSucc 2147483647), (.ofNat 2147483647)), (8, (.negSucc 2147483647), (.ofNat 2147483647)), (9, (.negSucc 2147483647), (.ofNat 2147483647))], [((.negSucc 68), [(0, (.ofNat 1)), (1, (.ofNat 1))]), ((.negSucc 69), [(0, (.ofNat 1)), (1, (.ofNat 1))]), ((.negSucc 122), [(0, (.ofNat 1)), (1, (.ofNat 1))]), ((.negSucc 123), [(0, (.ofNat 1)), (1, (.ofNat 1))])], [.inr (.inl (some 0)), .inr (.inl (some 0)), .inl (false, ((.ofNat 1), []))], [zc306,
    zc51,
    zc52,
    zc255,
    zc253,
    zc253,
    zc253,
    .inr (1, .inr (.inl 70)),
    .inr (1, .inr (.inl 8)),
    zc54,
    zc55,
    zc56,
    zc57,
    zc111,
    .inr (1, .inr (.inl 4))], [(2, [1], []), (1, [1], [])]), symsL 18 0, some ((.ofNat 193), [(0, (.negSucc 0)), (1, (.negSucc 0))]), 0, 0)
noncomputable def c162_0_p51 : PE := (1, [0, 1], (18, [(0, (.ofNat 0), (.ofNat 69)), (1, (.ofNat 55), (.ofNat 69)), (2, (.ofNat 0), (.ofNat 8)), (3, (.negSucc 2147483647), (.ofNat 2147483647)), (4, (.negSucc 2147483647), (.ofNat 2147483647)), (5, (.negSucc 2147483647), (.ofNat 2147483647)), (6, (.negSucc 2147483647), (.ofNat 2147483647)), (7, (.negSucc 2147483647), (.ofNat 2147483647)), (8, (.negSucc 2147483647), (.ofNat 2147483647)), (9, (.negSucc 2147483647), (.ofNat 2147483647))], [((.negSucc 68), [(0, (.ofNat 1)), (1, (.ofNat 1))]), ((.negSucc 69), [(0, (.ofNat 1)), (1, (.ofNat 1))]), ((.negSucc 123), [(0, (.ofNat 1)), (1, (.ofNat 1))]), ((.negSucc 124), [(0, (.ofNat 1)), (1, (.ofNat 1))])], [.inr (.inl (some 0)), .inr (.inl (some 0)), .inl (false, ((.ofNat 1), []))], [zc307,
    zc51,
    zc52,
    zc255,
    zc253,
    zc253,
    zc253,
    .inr (1, .inr (.inl 70)),
    .inr (1, .inr (.inl 8)),
    zc54,
    zc55,
    zc56,
    zc57,
    zc111,
    .inr (1, .inr (.inl 4))], [(2, [1], []), (1, [1], [])]), symsL 18 0, some ((.ofNat 194), [(0, (.negSucc 0)), (1, (.negSucc 0))]), 0, 0)
noncomputable def c162_0_p52 : PE := (1, [0, 1], (18, [(0, (.ofNat 0), (.ofNat 69)), (1, (.ofNat 56), (.ofNat 69)), (2, (.ofNat 0), (.ofNat 8)), (3, (.negSucc 2147483647), (.ofNat 2147483647)), (4, (.negSucc 2147483647), (.ofNat 2147483647)), (5, (.negSucc 2147483647), (.ofNat 2147483647)), (6, (.negSucc 2147483647), (.ofNat 2147483647)), (7, (.negSucc 2147483647), (.ofNat 2147483647)), (8, (.negSucc 2147483647), (.ofNat 2147483647)), (9, (.negSucc 2147483647), (.ofNat 2147483647))], [((.negSucc 68), [(0, (.ofNat 1)), (1, (.ofNat 1))]), ((.negSucc 69), [(0, (.ofNat 1)), (1, (.ofNat 1))]), ((.negSucc 124), [(0, (.ofNat 1)), (1, (.ofNat 1))]), ((.negSucc 125), [(0, (.ofNat 1)), (1, (.ofNat 1))])], [.inr (.inl (some 0)), .inr (.inl (some 0)), .inl (false, ((.ofNat 1), []))], [zc308,
    zc51,
    zc52,
    zc255,
    zc253,
    zc253,
    zc253,
    .inr (1, .inr (.inl 70)),
    .inr (1, .inr (.inl 8)),
    zc54,
    zc55,
    zc56,
    zc57,
    zc111,
    .inr (1, .inr (.inl 4))], [(2, [1], []), (1, [1], [])]), symsL 18 0, some ((.ofNat 195), [(0, (.negSucc 0)), (1, (.negSucc 0))]), 0, 0)
noncomputable def c162_0_p53 : PE := (1, [0, 1], (18, [(0, (.ofNat 0), (.ofNat 69)), (1, (.ofNat 57), (.ofNat 69)), (2, (.ofNat 0), (.ofNat 8)), (3, (.negSucc 2147483647), (.ofNat 2147483647)), (4, (.negSucc 2147483647), (.ofNat 2147483647)), (5, (.negSucc 2147483647), (.ofNat 2147483647)), (6, (.negSucc 2147483647), (.ofNat 2147483647)), (7, (.negSucc 2147483647), (.ofNat 2147483647)), (8, (.negSucc 2147483647), (.ofNat 2147483647)), (9, (.negSucc 2147483647), (.ofNat 2147483647))], [((.negSucc 68), [(0, (.ofNat 1)), (1, (.ofNat 1))]), ((.negSucc 69), [(0, (.ofNat 1)), (1, (.ofNat 1))]), ((.negSucc 125), [(0, (.ofNat 1)), (1, (.ofNat 1))]), ((.negSucc 126), [(0, (.ofNat 1)), (1, (.ofNat 1))])], [.inr (.inl (some 0)), .inr (.inl (some 0)), .inl (false, ((.ofNat 1), []))], [zc309,
    zc51,
    zc52,
    zc255,
    zc253,
    zc253,
    zc253,
    .inr (1, .inr (.inl 70)),
    .inr (1, .inr (.inl 8)),
    zc54,
    zc55,
    zc56,
    zc57,
    zc111,
    .inr (1, .inr (.inl 4))], [(2, [1], []), (1, [1], [])]), symsL 18 0, some ((.ofNat 196), [(0, (.negSucc 0)), (1, (.negSucc 0))]), 0, 0)
noncomputable def c162_0_p54 : PE := (1, [0, 1], (18, [(0, (.ofNat 0), (.ofNat 69)), (1, (.ofNat 58), (.ofNat 69)), (2, (.ofNat 0), (.ofNat 8)), (3, (.negSucc 2147483647), (.ofNat 2147483647)), (4, (.negSucc 2147483647), (.ofNat 2147483647)), (5, (.negSucc 2147483647), (.ofNat 2147483647)), (6, (.negSucc 2147483647), (.ofNat 2147483647)), (7, (.negSucc 2147483647), (.ofNat 2147483647)), (8, (.negSucc 2147483647), (.ofNat 2147483647)), (9, (.negSucc 2147483647), (.ofNat 2147483647))], [((.negSucc 68), [(0, (.ofNat 1)), (1, (.ofNat 1))]), ((.negSucc 69), [(0, (.ofNat 1)), (1, (.ofNat 1))]), ((.negSucc 126), [(0, (.ofNat 1)), (1, (.ofNat 1))]), ((.negSucc 127), [(0, (.ofNat 1)), (1, (.ofNat 1))])], [.inr (.inl (some 0)), .inr (.inl (some 0)), .inl (false, ((.ofNat 1), []))], [zc310,
    zc51,
    zc52,
    zc255,
    zc253,
    zc253,
    zc253,
    .inr (1, .inr (.inl 70)),
    .inr (1, .inr (.inl 8)),
    zc54,
    zc55,
    zc56,
    zc57,
    zc111,
    .inr (1, .inr (.inl 4))], [(2, [1], []), (1, [1], [])]), symsL 18 0, some ((.ofNat 197), [(0, (.negSucc 0)), (1, (.negSucc 0))]), 0, 0)
noncomputable def c162_0_p55 : PE := (1, [0, 1], (18, [(0, (.ofNat 0), (.ofNat 69)), (1, (.ofNat 59), (.ofNat 69)), (2, (.ofNat 0), (.ofNat 8)), (3, (.negSucc 2147483647), (.ofNat 2147483647)), (4, (.negSucc 2147483647), (.ofNat 2147483647)), (5, (.negSucc 2147483647), (.ofNat 2147483647)), (6, (.negSucc 2147483647), (.ofNat 2147483647)), (7, (.negSucc 2147483647), (.ofNat 2147483647)), (8, (.negSucc 2147483647), (.ofNat 2147483647)), (9, (.negSucc 2147483647), (.ofNat 2147483647))], [((.negSucc 68), [(0, (.ofNat 1)), (1, (.ofNat 1))]), ((.negSucc 69), [(0, (.ofNat 1)), (1, (.ofNat 1))]), ((.negSucc 127), [(0, (.ofNat 1)), (1, (.ofNat 1))]), ((.negSucc 128), [(0, (.ofNat 1)), (1, (.ofNat 1))])], [.inr (.inl (some 0)), .inr (.inl (some 0)), .inl (false, ((.ofNat 1), []))], [zc311,
    zc51,
    zc52,
    zc255,
    zc253,
    zc253,
    zc253,
    .inr (1, .inr (.inl 70)),
    .inr (1, .inr (.inl 8)),
    zc54,
    zc55,
    zc56,
    zc57,
    zc111,
    .inr (1, .inr (.inl 4))], [(2, [1], []), (1, [1], [])]), symsL 18 0, some ((.ofNat 198), [(0, (.negSucc 0)), (1, (.negSucc 0))]), 0, 0)
noncomputable def c162_0_p56 : PE := (1, [0, 1], (18, [(0, (.ofNat 0), (.ofNat 69)), (1, (.ofNat 6), (.ofNat 69)), (2, (.ofNat 0), (.ofNat 8)), (3, (.negSucc 2147483647), (.ofNat 2147483647)), (4, (.negSucc 2147483647), (.ofNat 2147483647)), (5, (.negSucc 2147483647), (.ofNat 2147483647)), (6, (.negSucc 2147483647), (.ofNat 2147483647)), (7, (.negSucc 2147483647), (.ofNat 2147483647)), (8, (.negSucc 2147483647), (.ofNat 2147483647)), (9, (.negSucc 2147483647), (.ofNat 2147483647))], [((.negSucc 68), [(0, (.ofNat 1)), (1, (.ofNat 1))]), ((.negSucc 69), [(0, (.ofNat 1)), (1, (.ofNat 1))]), ((.negSucc 74), [(0, (.ofNat 1)), (1, (.ofNat 1))]), ((.negSucc 75), [(0, (.ofNat 1)), (1, (.ofNat 1))])], [.inr (.inl (some 0)), .inr (.inl (some 0)), .inl (false, ((.ofNat 1), []))], [zc312,
    zc51,
    zc52,
    zc255,
    zc253,
    zc253,
    zc253,
    .inr (1, .inr (.inl 70)),
    .inr (1, .inr (.inl 8)),
    zc54,
    zc55,
    zc56,
    zc57,
    zc111,
    .inr (1, .inr (.inl 4))], [(2, [1], []), (1, [1], [])]), symsL 18 0, some ((.ofNat 145), [(0, (.negSucc 0)), (1, (.negSucc 0))]), 0, 0)
noncomputable def c162_0_p57 : PE := (1, [0, 1], (18, [(0, (.ofNat 0), (.ofNat 69)), (1, (.ofNat 60), (.ofNat 69)), (2, (.ofNat 0), (.ofNat 8)), (3, (.negSucc 2147483647), (.ofNat 2147483647)), (4, (.negSucc 2147483647), (.ofNat 2147483647)), (5, (.negSucc 2147483647), (.ofNat 2147483647)), (6, (.negSucc 2147483647), (.ofNat 2147483647)), (7, (.negSucc 2147483647), (.ofNat 2147483647)), (8, (.negSucc 2147483647), (.ofNat 2147483647)), (9, (.negSucc 2147483647), (.ofNat 2147483647))], [((.negSucc 68), [(0, (.ofNat 1)), (1, (.ofNat 1))]), ((.negSucc 69), [(0, (.ofNat 1)), (1, (.ofNat 1))]), ((.negSucc 128), [(0, (.ofNat 1)), (1, (.ofNat 1))]), ((.negSucc 129), [(0, (.ofNat 1)), (1, (.ofNat 1))])], [.inr (.inl (some 0)), .inr (.inl (some 0)), .inl (false, ((.ofNat 1), []))], [zc313,
    zc51,
    zc52,
    zc255,
    zc253,
    zc253,
    zc253,
    .inr (1, .inr (.inl 70)),
    .inr (1, .inr (.inl 8)),
    zc54,
    zc55,
    zc56,
    zc57,
    zc111,
    .inr (1, .inr (.inl 4))], [(2, [1], []), (1, [1], [])]), symsL 18 0, some ((.ofNat 199), [(0, (.negSucc 0)), (1, (.negSucc 0))]), 0, 0)
noncomputable def c162_0_p58 : PE := (1, [0, 1], (18, [(0, (.ofNat 0), (.ofNat 69)), (1, (.ofNat 61), (.ofNat 69)), (2, (.ofNat 0), (.ofNat 8)), (3, (.negSucc 2147483647), (.ofNat 2147483647)), (4, (.negSucc 2147483647), (.ofNat 2147483647)), (5, (.negSucc 2147483647), (.ofNat 2147483647)), (6, (.negSucc 2147483647), (.ofNat 2147483647)), (7, (.negSucc 2147483647), (.ofNat 2147483647)), (8, (.negSucc 2147483647), (.ofNat 2147483647)), (9, (.negSucc 2147483647), (.ofNat 2147483647))], [((.negSucc 68), [(0, (.ofNat 1)), (1, (.ofNat 1))]), ((.negSucc 69), [(0, (.ofNat 1)), (1, (.ofNat 1))]), ((.negSucc 129), [(0, (.ofNat 1)), (1, (.ofNat 1))]), ((.negSucc 130), [(0, (.ofNat 1)), (1, (.ofNat 1))])], [.inr (.inl (some 0)), .inr (.inl (some 0)), .inl (false, ((.ofNat 1), []))], [zc314,
    zc51,
    zc52,
    zc255,
    zc253,
    zc253,
    zc253,
    .inr (1, .inr (.inl 70)),
    .inr (1, .inr (.inl 8)),
    zc54,
    zc55,
    zc56,
    zc57,
    zc111,
    .inr (1, .inr (.inl 4))], [(2, [1], []), (1, [1], [])]), symsL 18 0, some ((.ofNat 200), [(0, (.negSucc 0)), (1, (.negSucc 0))]), 0, 0)
noncomputable def c162_0_p59 : PE := (1, [0, 1], (18, [(0, (.ofNat 0), (.ofNat 69)), (1, (.ofNat 62), (.ofNat 69)), (2, (.ofNat 0), (.ofNat 8)), (3, (.negSucc 2147483647), (.ofNat 2147483647)), (4, (.negSucc 2147483647), (.ofNat 2147483647)), (5, (.negSucc 2147483647), (.ofNat 2147483647)), (6, (.negSucc 2147483647), (.ofNat 2147483647)), (7, (.negSucc 2147483647), (.ofNat 2147483647)), (8, (.negSucc 2147483647), (.ofNat 2147483647)), (9, (.negSucc 2147483647), (.ofNat 2147483647))], [((.negSucc 68), [(0, (.ofNat 1)), (1, (.ofNat 1))]), ((.negSucc 69), [(0, (.ofNat 1)), (1, (.ofNat 1))]), ((.negSucc 130), [(0, (.ofNat 1)), (1, (.ofNat 1))]), ((.negSucc 131), [(0, (.ofNat 1)), (1, (.ofNat 1))])], [.inr (.inl (some 0)), .inr (.inl (some 0)), .inl (false, ((.ofNat 1), []))], [zc315,
    zc51,
    zc52,
    zc255,
    zc253,
    zc253,
    zc253,
    .inr (1, .inr (.inl 70)),
    .inr (1, .inr (.inl 8)),
    zc54,
    zc55,
    zc56,
    zc57,
    zc111,
    .inr (1, .inr (.inl 4))], [(2, [1], []), (1, [1], [])]), symsL 18 0, some ((.ofNat 201), [(0, (.negSucc 0)), (1, (.negSucc 0))]), 0, 0)
noncomputable def c162_0_p60 : PE := (1, [0, 1], (18, [(0, (.ofNat 0), (.ofNat 69)), (1, (.ofNat 63), (.ofNat 69)), (2, (.ofNat 0), (.ofNat 8)), (3, (.negSucc 2147483647), (.ofNat 2147483647)), (4, (.negSucc 2147483647), (.ofNat 2147483647)), (5, (.negSucc 2147483647), (.ofNat 2147483647)), (6, (.negSucc 2147483647), (.ofNat 2147483647)), (7, (.negSucc 2147483647), (.ofNat 2147483647)), (8, (.negSucc 2147483647), (.ofNat 2147483647)), (9, (.negSucc 2147483647), (.ofNat 2147483647))], [((.negSucc 68), [(0, (.ofNat 1)), (1, (.ofNat 1))]), ((.negSucc 69), [(0, (.ofNat 1)), (1, (.ofNat 1))]), ((.negSucc 131), [(0, (.ofNat 1)), (1, (.ofNat 1))]), ((.negSucc 132), [(0, (.ofNat 1)), (1, (.ofNat 1))])], [.inr (.inl (some 0)), .inr (.inl (some 0)), .inl (false, ((.ofNat 1), []))], [zc316,
    zc51,
    zc52,
    zc255,
    zc253,
    zc253,
    zc253,
    .inr (1, .inr (.inl 70)),
    .inr (1, .inr (.inl 8)),
    zc54,
    zc55,
    zc56,
    zc57,
    zc111,
    .inr (1, .inr (.inl 4))], [(2, [1], []), (1, [1], [])]), symsL 18 0, some ((.ofNat 202), [(0, (.negSucc 0)), (1, (.negSucc 0))]), 0, 0)
noncomputable def c162_0_p61 : PE := (1, [0, 1], (18, [(0, (.ofNat 0), (.ofNat 69)), (1, (.ofNat 64), (.ofNat 69)), (2, (.ofNat 0), (.ofNat 8)), (3, (.negSucc 2147483647), (.ofNat 2147483647)), (4, (.negSucc 2147483647), (.ofNat 2147483647)), (5, (.negSucc 2147483647), (.ofNat 2147483647)), (6, (.negSucc 2147483647), (.ofNat 2147483647)), (7, (.negSucc 2147483647), (.ofNat 2147483647)), (8, (.negSucc 2147483647), (.ofNat 2147483647)), (9, (.negSucc 2147483647), (.ofNat 2147483647))], [((.negSucc 68), [(0, (.ofNat 1)), (1, (.ofNat 1))]), ((.negSucc 69), [(0, (.ofNat 1)), (1, (.ofNat 1))]), ((.negSucc 132), [(0, (.ofNat 1)), (1, (.ofNat 1))]), ((.negSucc 133), [(0, (.ofNat 1)), (1, (.ofNat 1))])], [.inr (.inl (some 0)), .inr (.inl (some 0)), .inl (false, ((.ofNat 1), []))], [zc317,
    zc51,
    zc52,
    zc255,
    zc253,
    zc253,
    zc253,
    .inr (1, .inr (.inl 70)),
    .inr (1, .inr (.inl 8)),
    zc54,
    zc55,
    zc56,
    zc57,
    zc111,
    .inr (1, .inr (.inl 4))], [(2, [1], []), (1, [1], [])]), symsL 18 0, some ((.ofNat 203), [(0, (.negSucc 0)), (1, (.negSucc 0))]), 0, 0)
noncomputable def c162_0_p62 : PE := (1, [0, 1], (18, [(0, (.ofNat 0), (.ofNat 69)), (1, (.ofNat 65), (.ofNat 69)), (2, (.ofNat 0), (.ofNat 8)), (3, (.negSucc 2147483647), (.ofNat 2147483647)), (4, (.negSucc 2147483647), (.ofNat 2147483647)), (5, (.negSucc 2147483647), (.ofNat 2147483647)), (6, (.negSucc 2147483647), (.ofNat 2147483647)), (7, (.negSucc 2147483647), (.ofNat 2147483647)), (8, (.negSucc 2147483647), (.ofNat 2147483647)), (9, (.negSucc 2147483647), (.ofNat 2147483647))], [((.negSucc 68), [(0, (.ofNat 1)), (1, (.ofNat 1))]), ((.negSucc 69), [(0, (.ofNat 1)), (1, (.ofNat 1))]), ((.negSucc 133), [(0, (.ofNat 1)), (1, (.ofNat 1))]), ((.negSucc 134), [(0, (.ofNat 1)), (1, (.ofNat 1))])], [.inr (.inl (some 0)), .inr (.inl (some 0)), .inl (false, ((.ofNat 1), []))], [zc318,
    zc51,
    zc52,
    zc255,
    zc253,
    zc253,
    zc253,
    .inr (1, .inr (.inl 70)),
    .inr (1, .inr (.inl 8)),
    zc54,
    zc55,
    zc56,
    zc57,
    zc111,
    .inr (1, .inr (.inl 4))], [(2, [1], []), (1, [1], [])]), symsL 18 0, some ((.ofNat 204), [(0, (.negSucc 0)), (1, (.negSucc 0))]), 0, 0)
noncomputable def c162_0_p63 : PE := (1, [0, 1], (18, [(0, (.ofNat 0), (.ofNat 69)), (1, (.ofNat 66), (.ofNat 69)), (2, (.ofNat 0), (.ofNat 8)), (3, (.negSucc 2147483647), (.ofNat 2147483647)), (4, (.negSucc 2147483647), (.ofNat 2147483647)), (5, (.negSucc 2147483647), (.ofNat 2147483647)), (6, (.negSucc 2147483647), (.ofNat 2147483647)), (7, (.negSucc 2147483647), (.ofNat 2147483647)), (8, (.negSucc 2147483647), (.ofNat 2147483647)), (9, (.negSucc 2147483647), (.ofNat 2147483647))], [((.negSucc 68), [(0, (.ofNat 1)), (1, (.ofNat 1))]), ((.negSucc 69), [(0, (.ofNat 1)), (1, (.ofNat 1))]), ((.negSucc 134), [(0, (.ofNat 1)), (1, (.ofNat 1))]), ((.negSucc 135), [(0, (.ofNat 1)), (1, (.ofNat 1))])], [.inr (.inl (some 0)), .inr (.inl (some 0)), .inl (false, ((.ofNat 1), []))], [zc319,
    zc51,
    zc52,
    zc255,
    zc253,
    zc253,
    zc253,
    .inr (1, .inr (.inl 70)),
    .inr (1, .inr (.inl 8)),
    zc54,
    zc55,
    zc56,
    zc57,
    zc111,
    .inr (1, .inr (.inl 4))], [(2, [1], []), (1, [1], [])]), symsL 18 0, some ((.ofNat 205), [(0, (.negSucc 0)), (1, (.negSucc 0))]), 0, 0)
noncomputable def c162_0_p64 : PE := (1, [0, 1], (18, [(0, (.ofNat 0), (.ofNat 69)), (1, (.ofNat 67), (.ofNat 69)), (2, (.ofNat 0), (.ofNat 8)), (3, (.negSucc 2147483647), (.ofNat 2147483647)), (4, (.negSucc 2147483647), (.ofNat 2147483647)), (5, (.negSucc 2147483647), (.ofNat 2147483647)), (6, (.negSucc 2147483647), (.ofNat 2147483647)), (7, (.negSucc 2147483647), (.ofNat 2147483647)), (8, (.negSucc 2147483647), (.ofNat 2147483647)), (9, (.negSucc 2147483647), (.ofNat 2147483647))], [((.negSucc 68), [(0, (.ofNat 1)), (1, (.ofNat 1))]), ((.negSucc 69), [(0, (.ofNat 1)), (1, (.ofNat 1))]), ((.negSucc 135), [(0, (.ofNat 1)), (1, (.ofNat 1))]), ((.negSucc 136), [(0, (.ofNat 1)), (1, (.ofNat 1))])], [.inr (.inl (some 0)), .inr (.inl (some 0)), .inl (false, ((.ofNat 1), []))], [zc320,
    zc51,
    zc52,
    zc255,
    zc253,
    zc253,
    zc253,
    .inr (1, .inr (.inl 70)),
    .inr (1, .inr (.inl 8)),
    zc54,
    zc55,
    zc56,
    zc57,
    zc111,
    .inr (1, .inr (.inl 4))], [(2, [1], []), (1, [1], [])]), symsL 18 0, some ((.ofNat 206), [(0, (.negSucc 0)), (1, (.negSucc 0))]), 0, 0)
noncomputable def c162_0_p65 : PE := (1, [0, 1], (18, [(0, (.ofNat 0), (.ofNat 69)), (1, (.ofNat 68), (.ofNat 69)), (2, (.ofNat 0), (.ofNat 8)), (3, (.negSucc 2147483647), (.ofNat 2147483647)), (4, (.negSucc 2147483647), (.ofNat 2147483647)), (5, (.negSucc 2147483647), (.ofNat 2147483647)), (6, (.negSucc 2147483647), (.ofNat 2147483647)), (7, (.negSucc 2147483647), (.ofNat 2147483647)), (8, (.negSucc 2147483647), (.ofNat 2147483647)), (9, (.negSucc 2147483647), (.ofNat 2147483647))], [((.negSucc 68), [(0, (.ofNat 1)), (1, (.ofNat 1))]), ((.negSucc 69), [(0, (.ofNat 1)), (1, (.ofNat 1))]), ((.negSucc 136), [(0, (.ofNat 1)), (1, (.ofNat 1))])], [.inr (.inl (some 0)), .inr (.inl (some 0)), .inl (false, ((.ofNat 1), []))], [zc321,
    zc51,
    zc52,
    zc255,
    zc253,
    zc253,
    zc253,
    .inr (1, .inr (.inl 70)),
    .inr (1, .inr (.inl 8)),
    zc54,
    zc55,
    zc56,
    zc57,
    zc111,
    .inr (1, .inr (.inl 4))], [(2, [1], []), (1, [1], [])]), symsL 18 0, some ((.ofNat 207), [(0, (.negSucc 0)), (1, (.negSucc 0))]), 0, 0)
noncomputable def c162_0_p66 : PE := (1, [0, 1], (18, [(0, (.ofNat 0), (.ofNat 69)), (1, (.ofNat 69), (.ofNat 69)), (2, (.ofNat 0), (.ofNat 8)), (3, (.negSucc 2147483647), (.ofNat 2147483647)), (4, (.negSucc 2147483647), (.ofNat 2147483647)), (5, (.negSucc 2147483647), (.ofNat 2147483647)), (6, (.negSucc 2147483647), (.ofNat 2147483647)), (7, (.negSucc 2147483647), (.ofNat 2147483647)), (8, (.negSucc 2147483647), (.ofNat 2147483647)), (9, (.negSucc 2147483647), (.ofNat 2147483647))], [((.negSucc 68), [(0, (.ofNat 1)), (1, (.ofNat 1))]), ((.negSucc 69), [(0, (.ofNat 1)), (1, (.ofNat 1))])], [.inr (.inl (some 0)), .inr (.inl (some 0)), .inl (false, ((.ofNat 1), []))], [zc177,
    zc51,
    zc52,
    zc255,
    zc253,
    zc253,
    zc253,
    .inr (1, .inr (.inl 70)),
    .inr (1, .inr (.inl 8)),
    zc54,
    zc55,
    zc56,
    zc57,
    zc111,
    .inr (1, .inr (.inl 4))], [(2, [1], []), (1, [1], [])]), symsL 18 0, some ((.ofNat 139), [(0, (.negSucc 0))]), 0, 0)
noncomputable def c162_0_p67 : PE := (1, [0, 1], (18, [(0, (.ofNat 0), (.ofNat 69)), (1, (.ofNat 7), (.ofNat 69)), (2, (.ofNat 0), (.ofNat 8)), (3, (.negSucc 2147483647), (.ofNat 2147483647)), (4, (.negSucc 2147483647), (.ofNat 2147483647)), (5, (.negSucc 2147483647), (.ofNat 2147483647)), (6, (.negSucc 2147483647), (.ofNat 2147483647)), (7, (.negSucc 2147483647), (.ofNat 2147483647)), (8, (.negSucc 2147483647), (.ofNat 2147483647)), (9, (.negSucc 2147483647), (.ofNat 2147483647))], [((.negSucc 68), [(0, (.ofNat 1)), (1, (.ofNat 1))]), ((.negSucc 69), [(0, (.ofNat 1)), (1, (.ofNat 1))]), ((.negSucc 75), [(0, (.ofNat 1)), (1, (.ofNat 1))]), ((.negSucc 76), [(0, (.ofNat 1)), (1, (.ofNat 1))])], [.inr (.inl (some 0)), .inr (.inl (some 0)), .inl (false, ((.ofNat 1), []))], [zc322,
    zc51,
    zc52,
    zc255,
    zc253,
    zc253,
    zc253,
    .inr (1, .inr (.inl 70)),
    .inr (1, .inr (.inl 8)),
    zc54,
    zc55,
    zc56,
    zc57,
    zc111,
    .inr (1, .inr (.inl 4))], [(2, [1], []), (1, [1], [])]), symsL 18 0, some ((.ofNat 146), [(0, (.negSucc 0)), (1, (.negSucc 0))]), 0, 0)
noncomputable def c162_0_p68 : PE := (1, [0, 1], (18, [(0, (.ofNat 0), (.ofNat 69)), (1, (.ofNat 8), (.ofNat 69)), (2, (.ofNat 0), (.ofNat 8)), (3, (.negSucc 2147483647), (.ofNat 2147483647)), (4, (.negSucc 2147483647), (.ofNat 2147483647)), (5, (.negSucc 2147483647), (.ofNat 2147483647)), (6, (.negSucc 2147483647), (.ofNat 2147483647)), (7, (.negSucc 2147483647), (.ofNat 2147483647)), (8, (.negSucc 2147483647), (.ofNat 2147483647)), (9, (.negSucc 2147483647), (.ofNat 2147483647))], [((.negSucc 68), [(0, (.ofNat 1)), (1, (.ofNat 1))]), ((.negSucc 69), [(0, (.ofNat 1)), (1, (.ofNat 1))]), ((.negSucc 76), [(0, (.ofNat 1)), (1, (.ofNat 1))]), ((.negSucc 77), [(0, (.ofNat 1)), (1, (.ofNat 1))])], [.inr (.inl (some 0)), .inr (.inl (some 0)), .inl (false, ((.ofNat 1), []))], [zc323,
    zc51,
    zc52,
    zc255,
    zc253,
    zc253,
    zc253,
    .inr (1, .inr (.inl 70)),
    .inr (1, .inr (.inl 8)),
    zc54,
    zc55,
    zc56,
    zc57,
    zc111,
    .inr (1, .inr (.inl 4))], [(2, [1], []), (1, [1], [])]), symsL 18 0, some ((.ofNat 147), [(0, (.negSucc 0)), (1, (.negSucc 0))]), 0, 0)
noncomputable def c162_0_p69 : PE := (1, [0, 1], (18, [(0, (.ofNat 0), (.ofNat 69)), (1, (.ofNat 9), (.ofNat 69)), (2, (.ofNat 0), (.ofNat 8)), (3, (.negSucc 2147483647), (.ofNat 2147483647)), (4, (.negSucc 2147483647), (.ofNat 2147483647)), (5, (.negSucc 2147483647), (.ofNat 2147483647)), (6, (.negSucc 2147483647), (.ofNat 2147483647)), (7, (.negSucc 2147483647), (.ofNat 2147483647)), (8, (.negSucc 2147483647), (.ofNat 2147483647)), (9, (.negSucc 2147483647), (.ofNat 2147483647))], [((.negSucc 68), [(0, (.ofNat 1)), (1, (.ofNat 1))]), ((.negSucc 69), [(0, (.ofNat 1)), (1, (.ofNat 1))]), ((.negSucc 77), [(0, (.ofNat 1)), (1, (.ofNat 1))]), ((.negSucc 78), [(0, (.ofNat 1)), (1, (.ofNat 1))])], [.inr (.inl (some 0)), .inr (.inl (some 0)), .inl (false, ((.ofNat 1), []))], [zc324,
    zc51,
    zc52,
    zc255,
    zc253,
    zc253,
    zc253,
    .inr (1, .inr (.inl 70)),
    .inr (1, .inr (.inl 8)),
    zc54,
    zc55,
    zc56,
    zc57,
    zc111,
    .inr (1, .inr (.inl 4))], [(2, [1], []), (1, [1], [])]), symsL 18 0, some ((.ofNat 148), [(0, (.negSucc 0)), (1, (.negSucc 0))]), 0, 0)
noncomputable def c162_0_pts : List PE := [c162_0_p0, c162_0_p1, c162_0_p2, c162_0_p3, c162_0_p4, c162_0_p5, c162_0_p6, c162_0_p7, c162_0_p8, c162_0_p9, c162_0_p10, c162_0_p11, c162_0_p12, c162_0_p13, c162_0_p14, c162_0_p15, c162_0_p16, c162_0_p17, c162_0_p18, c162_0_p19, c162_0_p20, c162_0_p21, c162_0_p22, c162_0_p23, c162_0_p24, c162_0_p25, c162_0_p26, c162_0_p27, c162_0_p28, c162_0_p29, c162_0_p30, c162_0_p31, c162_0_p32, c162_0_p33, c162_0_p34, c162_0_p35, c162_0_p36, c162_0_p37, c162_0_p38, c162_0_p39, c162_0_p40, c162_0_p41, c162_0_p42, c162_0_p43, c162_0_p44, c162_0_p45, c162_0_p46, c162_0_p47, c162_0_p48, c162_0_p49, c162_0_p50, c162_0_p51, c162_0_p52, c162_0_p53, c162_0_p54, c162_0_p55, c162_0_p56, c162_0_p57, c162_0_p58, c162_0_p59, c162_0_p60, c162_0_p61, c162_0_p62, c162_0_p63, c162_0_p64, c162_0_p65, c162_0_p66, c162_0_p67, c162_0_p68, c162_0_p69]
set_option maxRecDepth 100000 in
theorem c162_0_k : enCtF c162_0 c162_0_e (c162_0_pts ++ []) (none) ((hOr (hSplit 0 106 ) (hOr (atPc 1 (fPop 7 106)) (atPc 52 fWords))), noM, 2, 4503599627370499, 18) 3000 = true := by decide +kernel
set_option maxRecDepth 100000 in
theorem c162_0_k0 : ptCtF c162_0 c162_0_e (c162_0_pts ++ []) ((hOr (hSplit 0 106 ) (hOr (atPc 1 (fPop 7 106)) (atPc 52 fWords))), noM, 2, 4503599627370499, 18) 3000 c162_0_p0 = true := by decide +kernel
set_option maxRecDepth 100000 in
theorem c162_0_k1 : ptCtF c162_0 c162_0_e (c162_0_pts ++ []) ((hOr (hSplit 0 106 ) (hOr (atPc 1 (fPop 7 106)) (atPc 52 fWords))), noM, 2, 4503599627370499, 18) 3000 c162_0_p1 = true := by decide +kernel
set_option maxRecDepth 100000 in
theorem c162_0_k2 : ptCtF c162_0 c162_0_e (c162_0_pts ++ []) ((hOr (hSplit 0 106 ) (hOr (atPc 1 (fPop 7 106)) (atPc 52 fWords))), noM, 2, 4503599627370499, 18) 3000 c162_0_p2 = true := by decide +kernel
set_option maxRecDepth 100000 in
theorem c162_0_k3 : ptCtF c162_0 c162_0_e (c162_0_pts ++ []) ((hOr (hSplit 0 106 ) (hOr (atPc 1 (fPop 7 106)) (atPc 52 fWords))), noM, 2, 4503599627370499, 18) 3000 c162_0_p3 = true := by decide +kernel
set_option maxRecDepth 100000 in
theorem c162_0_k4 : ptCtF c162_0 c162_0_e (c162_0_pts ++ []) ((hOr (hSplit 0 106 ) (hOr (atPc 1 (fPop 7 106)) (atPc 52 fWords))), noM, 2, 4503599627370499, 18) 3000 c162_0_p4 = true := by decide +kernel
set_option maxRecDepth 100000 in
theorem c162_0_k5 : ptCtF c162_0 c162_0_e (c162_0_pts ++ []) ((hOr (hSplit 0 106 ) (hOr (atPc 1 (fPop 7 106)) (atPc 52 fWords))), noM, 2, 4503599627370499, 18) 3000 c162_0_p5 = true := by decide +kernel
set_option maxRecDepth 100000 in
theorem c162_0_k6 : ptCtF c162_0 c162_0_e (c162_0_pts ++ []) ((hOr (hSplit 0 106 ) (hOr (atPc 1 (fPop 7 106)) (atPc 52 fWords))), noM, 2, 4503599627370499, 18) 3000 c162_0_p6 = true := by decide +kernel
set_option maxRecDepth 100000 in
theorem c162_0_k7 : ptCtF c162_0 c162_0_e (c162_0_pts ++ []) ((hOr (hSplit 0 106 ) (hOr (atPc 1 (fPop 7 106)) (atPc 52 fWords))), noM, 2, 4503599627370499, 18) 3000 c162_0_p7 = true := by decide +kernel
set_option maxRecDepth 100000 in
theorem c162_0_k8 : ptCtF c162_0 c162_0_e (c162_0_pts ++ []) ((hOr (hSplit 0 106 ) (hOr (atPc 1 (fPop 7 106)) (atPc 52 fWords))), noM, 2, 4503599627370499, 18) 3000 c162_0_p8 = true := by decide +kernel
set_option maxRecDepth 100000 in
theorem c162_0_k9 : ptCtF c162_0 c162_0_e (c162_0_pts ++ []) ((hOr (hSplit 0 106 ) (hOr (atPc 1 (fPop 7 106)) (atPc 52 fWords))), noM, 2, 4503599627370499, 18) 3000 c162_0_p9 = true := by decide +kernel
set_option maxRecDepth 100000 in
theorem c162_0_k10 : ptCtF c162_0 c162_0_e (c162_0_pts ++ []) ((hOr (hSplit 0 106 ) (hOr (atPc 1 (fPop 7 106)) (atPc 52 fWords))), noM, 2, 4503599627370499, 18) 3000 c162_0_p10 = true := by decide +kernel
set_option maxRecDepth 100000 in
theorem c162_0_k11 : ptCtF c162_0 c162_0_e (c162_0_pts ++ []) ((hOr (hSplit 0 106 ) (hOr (atPc 1 (fPop 7 106)) (atPc 52 fWords))), noM, 2, 4503599627370499, 18) 3000 c162_0_p11 = true := by decide +kernel
set_option maxRecDepth 100000 in
theorem c162_0_k12 : ptCtF c162_0 c162_0_e (c162_0_pts ++ []) ((hOr (hSplit 0 106 ) (hOr (atPc 1 (fPop 7 106)) (atPc 52 fWords))), noM, 2, 4503599627370499, 18) 3000 c162_0_p12 = true := by decide +kernel
set_option maxRecDepth 100000 in
theorem c162_0_k13 : ptCtF c162_0 c162_0_e (c162_0_pts ++ []) ((hOr (hSplit 0 106 ) (hOr (atPc 1 (fPop 7 106)) (atPc 52 fWords))), noM, 2, 4503599627370499, 18) 3000 c162_0_p13 = true := by decide +kernel
set_option maxRecDepth 100000 in
theorem c162_0_k14 : ptCtF c162_0 c162_0_e (c162_0_pts ++ []) ((hOr (hSplit 0 106 ) (hOr (atPc 1 (fPop 7 106)) (atPc 52 fWords))), noM, 2, 4503599627370499, 18) 3000 c162_0_p14 = true := by decide +kernel
set_option maxRecDepth 100000 in
theorem c162_0_k15 : ptCtF c162_0 c162_0_e (c162_0_pts ++ []) ((hOr (hSplit 0 106 ) (hOr (atPc 1 (fPop 7 106)) (atPc 52 fWords))), noM, 2, 4503599627370499, 18) 3000 c162_0_p15 = true := by decide +kernel
set_option maxRecDepth 100000 in
theorem c162_0_k16 : ptCtF c162_0 c162_0_e (c162_0_pts ++ []) ((hOr (hSplit 0 106 ) (hOr (atPc 1 (fPop 7 106)) (atPc 52 fWords))), noM, 2, 4503599627370499, 18) 3000 c162_0_p16 = true := by decide +kernel
set_option maxRecDepth 100000 in
theorem c162_0_k17 : ptCtF c162_0 c162_0_e (c162_0_pts ++ []) ((hOr (hSplit 0 106 ) (hOr (atPc 1 (fPop 7 106)) (atPc 52 fWords))), noM, 2, 4503599627370499, 18) 3000 c162_0_p17 = true := by decide +kernel
set_option maxRecDepth 100000 in
theorem c162_0_k18 : ptCtF c162_0 c162_0_e (c162_0_pts ++ []) ((hOr (hSplit 0 106 ) (hOr (atPc 1 (fPop 7 106)) (atPc 52 fWords))), noM, 2, 4503599627370499, 18) 3000 c162_0_p18 = true := by decide +kernel
set_option maxRecDepth 100000 in
theorem c162_0_k19 : ptCtF c162_0 c162_0_e (c162_0_pts ++ []) ((hOr (hSplit 0 106 ) (hOr (atPc 1 (fPop 7 106)) (atPc 52 fWords))), noM, 2, 4503599627370499, 18) 3000 c162_0_p19 = true := by decide +kernel
set_option maxRecDepth 100000 in
theorem c162_0_k20 : ptCtF c162_0 c162_0_e (c162_0_pts ++ []) ((hOr (hSplit 0 106 ) (hOr (atPc 1 (fPop 7 106)) (atPc 52 fWords))), noM, 2, 4503599627370499, 18) 3000 c162_0_p20 = true := by decide +kernel
set_option maxRecDepth 100000 in
theorem c162_0_k21 : ptCtF c162_0 c162_0_e (c162_0_pts ++ []) ((hOr (hSplit 0 106 ) (hOr (atPc 1 (fPop 7 106)) (atPc 52 fWords))), noM, 2, 4503599627370499, 18) 3000 c162_0_p21 = true := by decide +kernel
set_option maxRecDepth 100000 in
theorem c162_0_k22 : ptCtF c162_0 c162_0_e (c162_0_pts ++ []) ((hOr (hSplit 0 106 ) (hOr (atPc 1 (fPop 7 106)) (atPc 52 fWords))), noM, 2, 4503599627370499, 18) 3000 c162_0_p22 = true := by decide +kernel
set_option maxRecDepth 100000 in
theorem c162_0_k23 : ptCtF c162_0 c162_0_e (c162_0_pts ++ []) ((hOr (hSplit 0 106 ) (hOr (atPc 1 (fPop 7 106)) (atPc 52 fWords))), noM, 2, 4503599627370499, 18) 3000 c162_0_p23 = true := by decide +kernel
set_option maxRecDepth 100000 in
theorem c162_0_k24 : ptCtF c162_0 c162_0_e (c162_0_pts ++ []) ((hOr (hSplit 0 106 ) (hOr (atPc 1 (fPop 7 106)) (atPc 52 fWords))), noM, 2, 4503599627370499, 18) 3000 c162_0_p24 = true := by decide +kernel
set_option maxRecDepth 100000 in
theorem c162_0_k25 : ptCtF c162_0 c162_0_e (c162_0_pts ++ []) ((hOr (hSplit 0 106 ) (hOr (atPc 1 (fPop 7 106)) (atPc 52 fWords))), noM, 2, 4503599627370499, 18) 3000 c162_0_p25 = true := by decide +kernel
set_option maxRecDepth 100000 in
theorem c162_0_k26 : ptCtF c162_0 c162_0_e (c162_0_pts ++ []) ((hOr (hSplit 0 106 ) (hOr (atPc 1 (fPop 7 106)) (atPc 52 fWords))), noM, 2, 4503599627370499, 18) 3000 c162_0_p26 = true := by decide +kernel
set_option maxRecDepth 100000 in
theorem c162_0_k27 : ptCtF c162_0 c162_0_e (c162_0_pts ++ []) ((hOr (hSplit 0 106 ) (hOr (atPc 1 (fPop 7 106)) (atPc 52 fWords))), noM, 2, 4503599627370499, 18) 3000 c162_0_p27 = true := by decide +kernel
set_option maxRecDepth 100000 in
theorem c162_0_k28 : ptCtF c162_0 c162_0_e (c162_0_pts ++ []) ((hOr (hSplit 0 106 ) (hOr (atPc 1 (fPop 7 106)) (atPc 52 fWords))), noM, 2, 4503599627370499, 18) 3000 c162_0_p28 = true := by decide +kernel
set_option maxRecDepth 100000 in
theorem c162_0_k29 : ptCtF c162_0 c162_0_e (c162_0_pts ++ []) ((hOr (hSplit 0 106 ) (hOr (atPc 1 (fPop 7 106)) (atPc 52 fWords))), noM, 2, 4503599627370499, 18) 3000 c162_0_p29 = true := by decide +kernel
set_option maxRecDepth 100000 in
theorem c162_0_k30 : ptCtF c162_0 c162_0_e (c162_0_pts ++ []) ((hOr (hSplit 0 106 ) (hOr (atPc 1 (fPop 7 106)) (atPc 52 fWords))), noM, 2, 4503599627370499, 18) 3000 c162_0_p30 = true := by decide +kernel
set_option maxRecDepth 100000 in
theorem c162_0_k31 : ptCtF c162_0 c162_0_e (c162_0_pts ++ []) ((hOr (hSplit 0 106 ) (hOr (atPc 1 (fPop 7 106)) (atPc 52 fWords))), noM, 2, 4503599627370499, 18) 3000 c162_0_p31 = true := by decide +kernel
set_option maxRecDepth 100000 in
theorem c162_0_k32 : ptCtF c162_0 c162_0_e (c162_0_pts ++ []) ((hOr (hSplit 0 106 ) (hOr (atPc 1 (fPop 7 106)) (atPc 52 fWords))), noM, 2, 4503599627370499, 18) 3000 c162_0_p32 = true := by decide +kernel
set_option maxRecDepth 100000 in
theorem c162_0_k33 : ptCtF c162_0 c162_0_e (c162_0_pts ++ []) ((hOr (hSplit 0 106 ) (hOr (atPc 1 (fPop 7 106)) (atPc 52 fWords))), noM, 2, 4503599627370499, 18) 3000 c162_0_p33 = true := by decide +kernel
set_option maxRecDepth 100000 in
theorem c162_0_k34 : ptCtF c162_0 c162_0_e (c162_0_pts ++ []) ((hOr (hSplit 0 106 ) (hOr (atPc 1 (fPop 7 106)) (atPc 52 fWords))), noM, 2, 4503599627370499, 18) 3000 c162_0_p34 = true := by decide +kernel
set_option maxRecDepth 100000 in
theorem c162_0_k35 : ptCtF c162_0 c162_0_e (c162_0_pts ++ []) ((hOr (hSplit 0 106 ) (hOr (atPc 1 (fPop 7 106)) (atPc 52 fWords))), noM, 2, 4503599627370499, 18) 3000 c162_0_p35 = true := by decide +kernel
set_option maxRecDepth 100000 in
theorem c162_0_k36 : ptCtF c162_0 c162_0_e (c162_0_pts ++ []) ((hOr (hSplit 0 106 ) (hOr (atPc 1 (fPop 7 106)) (atPc 52 fWords))), noM, 2, 4503599627370499, 18) 3000 c162_0_p36 = true := by decide +kernel
set_option maxRecDepth 100000 in
theorem c162_0_k37 : ptCtF c162_0 c162_0_e (c162_0_pts ++ []) ((hOr (hSplit 0 106 ) (hOr (atPc 1 (fPop 7 106)) (atPc 52 fWords))), noM, 2, 4503599627370499, 18) 3000 c162_0_p37 = true := by decide +kernel
set_option maxRecDepth 100000 in
theorem c162_0_k38 : ptCtF c162_0 c162_0_e (c162_0_pts ++ []) ((hOr (hSplit 0 106 ) (hOr (atPc 1 (fPop 7 106)) (atPc 52 fWords))), noM, 2, 4503599627370499, 18) 3000 c162_0_p38 = true := by decide +kernel
set_option maxRecDepth 100000 in
theorem c162_0_k39 : ptCtF c162_0 c162_0_e (c162_0_pts ++ []) ((hOr (hSplit 0 106 ) (hOr (atPc 1 (fPop 7 106)) (atPc 52 fWords))), noM, 2, 4503599627370499, 18) 3000 c162_0_p39 = true := by decide +kernel
set_option maxRecDepth 100000 in
theorem c162_0_k40 : ptCtF c162_0 c162_0_e (c162_0_pts ++ []) ((hOr (hSplit 0 106 ) (hOr (atPc 1 (fPop 7 106)) (atPc 52 fWords))), noM, 2, 4503599627370499, 18) 3000 c162_0_p40 = true := by decide +kernel
set_option maxRecDepth 100000 in
theorem c162_0_k41 : ptCtF c162_0 c162_0_e (c162_0_pts ++ []) ((hOr (hSplit 0 106 ) (hOr (atPc 1 (fPop 7 106)) (atPc 52 fWords))), noM, 2, 4503599627370499, 18) 3000 c162_0_p41 = true := by decide +kernel
set_option maxRecDepth 100000 in
theorem c162_0_k42 : ptCtF c162_0 c162_0_e (c162_0_pts ++ []) ((hOr (hSplit 0 106 ) (hOr (atPc 1 (fPop 7 106)) (atPc 52 fWords))), noM, 2, 4503599627370499, 18) 3000 c162_0_p42 = true := by decide +kernel
set_option maxRecDepth 100000 in
theorem c162_0_k43 : ptCtF c162_0 c162_0_e (c162_0_pts ++ []) ((hOr (hSplit 0 106 ) (hOr (atPc 1 (fPop 7 106)) (atPc 52 fWords))), noM, 2, 4503599627370499, 18) 3000 c162_0_p43 = true := by decide +kernel
set_option maxRecDepth 100000 in
theorem c162_0_k44 : ptCtF c162_0 c162_0_e (c162_0_pts ++ []) ((hOr (hSplit 0 106 ) (hOr (atPc 1 (fPop 7 106)) (atPc 52 fWords))), noM, 2, 4503599627370499, 18) 3000 c162_0_p44 = true := by decide +kernel
set_option maxRecDepth 100000 in
theorem c162_0_k45 : ptCtF c162_0 c162_0_e (c162_0_pts ++ []) ((hOr (hSplit 0 106 ) (hOr (atPc 1 (fPop 7 106)) (atPc 52 fWords))), noM, 2, 4503599627370499, 18) 3000 c162_0_p45 = true := by decide +kernel
set_option maxRecDepth 100000 in
theorem c162_0_k46 : ptCtF c162_0 c162_0_e (c162_0_pts ++ []) ((hOr (hSplit 0 106 ) (hOr (atPc 1 (fPop 7 106)) (atPc 52 fWords))), noM, 2, 4503599627370499, 18) 3000 c162_0_p46 = true := by decide +kernel
set_option maxRecDepth 100000 in
theorem c162_0_k47 : ptCtF c162_0 c162_0_e (c162_0_pts ++ []) ((hOr (hSplit 0 106 ) (hOr (atPc 1 (fPop 7 106)) (atPc 52 fWords))), noM, 2, 4503599627370499, 18) 3000 c162_0_p47 = true := by decide +kernel
set_option maxRecDepth 100000 in
theorem c162_0_k48 : ptCtF c162_0 c162_0_e (c162_0_pts ++ []) ((hOr (hSplit 0 106 ) (hOr (atPc 1 (fPop 7 106)) (atPc 52 fWords))), noM, 2, 4503599627370499, 18) 3000 c162_0_p48 = true := by decide +kernel
set_option maxRecDepth 100000 in
theorem c162_0_k49 : ptCtF c162_0 c162_0_e (c162_0_pts ++ []) ((hOr (hSplit 0 106 ) (hOr (atPc 1 (fPop 7 106)) (atPc 52 fWords))), noM, 2, 4503599627370499, 18) 3000 c162_0_p49 = true := by decide +kernel
set_option maxRecDepth 100000 in
theorem c162_0_k50 : ptCtF c162_0 c162_0_e (c162_0_pts ++ []) ((hOr (hSplit 0 106 ) (hOr (atPc 1 (fPop 7 106)) (atPc 52 fWords))), noM, 2, 4503599627370499, 18) 3000 c162_0_p50 = true := by decide +kernel
set_option maxRecDepth 100000 in
theorem c162_0_k51 : ptCtF c162_0 c162_0_e (c162_0_pts ++ []) ((hOr (hSplit 0 106 ) (hOr (atPc 1 (fPop 7 106)) (atPc 52 fWords))), noM, 2, 4503599627370499, 18) 3000 c162_0_p51 = true := by decide +kernel
set_option maxRecDepth 100000 in
theorem c162_0_k52 : ptCtF c162_0 c162_0_e (c162_0_pts ++ []) ((hOr (hSplit 0 106 ) (hOr (atPc 1 (fPop 7 106)) (atPc 52 fWords))), noM, 2, 4503599627370499, 18) 3000 c162_0_p52 = true := by decide +kernel
set_option maxRecDepth 100000 in
theorem c162_0_k53 : ptCtF c162_0 c162_0_e (c162_0_pts ++ []) ((hOr (hSplit 0 106 ) (hOr (atPc 1 (fPop 7 106)) (atPc 52 fWords))), noM, 2, 4503599627370499, 18) 3000 c162_0_p53 = true := by decide +kernel
set_option maxRecDepth 100000 in
theorem c162_0_k54 : ptCtF c162_0 c162_0_e (c162_0_pts ++ []) ((hOr (hSplit 0 106 ) (hOr (atPc 1 (fPop 7 106)) (atPc 52 fWords))), noM, 2, 4503599627370499, 18) 3000 c162_0_p54 = true := by decide +kernel
set_option maxRecDepth 100000 in
theorem c162_0_k55 : ptCtF c162_0 c162_0_e (c162_0_pts ++ []) ((hOr (hSplit 0 106 ) (hOr (atPc 1 (fPop 7 106)) (atPc 52 fWords))), noM, 2, 4503599627370499, 18) 3000 c162_0_p55 = true := by decide +kernel
set_option maxRecDepth 100000 in
theorem c162_0_k56 : ptCtF c162_0 c162_0_e (c162_0_pts ++ []) ((hOr (hSplit 0 106 ) (hOr (atPc 1 (fPop 7 106)) (atPc 52 fWords))), noM, 2, 4503599627370499, 18) 3000 c162_0_p56 = true := by decide +kernel
set_option maxRecDepth 100000 in
theorem c162_0_k57 : ptCtF c162_0 c162_0_e (c162_0_pts ++ []) ((hOr (hSplit 0 106 ) (hOr (atPc 1 (fPop 7 106)) (atPc 52 fWords))), noM, 2, 4503599627370499, 18) 3000 c162_0_p57 = true := by decide +kernel
set_option maxRecDepth 100000 in
theorem c162_0_k58 : ptCtF c162_0 c162_0_e (c162_0_pts ++ []) ((hOr (hSplit 0 106 ) (hOr (atPc 1 (fPop 7 106)) (atPc 52 fWords))), noM, 2, 4503599627370499, 18) 3000 c162_0_p58 = true := by decide +kernel
set_option maxRecDepth 100000 in
theorem c162_0_k59 : ptCtF c162_0 c162_0_e (c162_0_pts ++ []) ((hOr (hSplit 0 106 ) (hOr (atPc 1 (fPop 7 106)) (atPc 52 fWords))), noM, 2, 4503599627370499, 18) 3000 c162_0_p59 = true := by decide +kernel
set_option maxRecDepth 100000 in
theorem c162_0_k60 : ptCtF c162_0 c162_0_e (c162_0_pts ++ []) ((hOr (hSplit 0 106 ) (hOr (atPc 1 (fPop 7 106)) (atPc 52 fWords))), noM, 2, 4503599627370499, 18) 3000 c162_0_p60 = true := by decide +kernel
set_option maxRecDepth 100000 in
theorem c162_0_k61 : ptCtF c162_0 c162_0_e (c162_0_pts ++ []) ((hOr (hSplit 0 106 ) (hOr (atPc 1 (fPop 7 106)) (atPc 52 fWords))), noM, 2, 4503599627370499, 18) 3000 c162_0_p61 = true := by decide +kernel
set_option maxRecDepth 100000 in
theorem c162_0_k62 : ptCtF c162_0 c162_0_e (c162_0_pts ++ []) ((hOr (hSplit 0 106 ) (hOr (atPc 1 (fPop 7 106)) (atPc 52 fWords))), noM, 2, 4503599627370499, 18) 3000 c162_0_p62 = true := by decide +kernel
set_option maxRecDepth 100000 in
theorem c162_0_k63 : ptCtF c162_0 c162_0_e (c162_0_pts ++ []) ((hOr (hSplit 0 106 ) (hOr (atPc 1 (fPop 7 106)) (atPc 52 fWords))), noM, 2, 4503599627370499, 18) 3000 c162_0_p63 = true := by decide +kernel
set_option maxRecDepth 100000 in
theorem c162_0_k64 : ptCtF c162_0 c162_0_e (c162_0_pts ++ []) ((hOr (hSplit 0 106 ) (hOr (atPc 1 (fPop 7 106)) (atPc 52 fWords))), noM, 2, 4503599627370499, 18) 3000 c162_0_p64 = true := by decide +kernel
set_option maxRecDepth 100000 in
theorem c162_0_k65 : ptCtF c162_0 c162_0_e (c162_0_pts ++ []) ((hOr (hSplit 0 106 ) (hOr (atPc 1 (fPop 7 106)) (atPc 52 fWords))), noM, 2, 4503599627370499, 18) 3000 c162_0_p65 = true := by decide +kernel
set_option maxRecDepth 100000 in
theorem c162_0_k66 : ptCtF c162_0 c162_0_e (c162_0_pts ++ []) ((hOr (hSplit 0 106 ) (hOr (atPc 1 (fPop 7 106)) (atPc 52 fWords))), noM, 2, 4503599627370499, 18) 3000 c162_0_p66 = true := by decide +kernel
set_option maxRecDepth 100000 in
theorem c162_0_k67 : ptCtF c162_0 c162_0_e (c162_0_pts ++ []) ((hOr (hSplit 0 106 ) (hOr (atPc 1 (fPop 7 106)) (atPc 52 fWords))), noM, 2, 4503599627370499, 18) 3000 c162_0_p67 = true := by decide +kernel
set_option maxRecDepth 100000 in
theorem c162_0_k68 : ptCtF c162_0 c162_0_e (c162_0_pts ++ []) ((hOr (hSplit 0 106 ) (hOr (atPc 1 (fPop 7 106)) (atPc 52 fWords))), noM, 2, 4503599627370499, 18) 3000 c162_0_p68 = true := by decide +kernel
set_option maxRecDepth 100000 in
theorem c162_0_k69 : ptCtF c162_0 c162_0_e (c162_0_pts ++ []) ((hOr (hSplit 0 106 ) (hOr (atPc 1 (fPop 7 106)) (atPc 52 fWords))), noM, 2, 4503599627370499, 18) 3000 c162_0_p69 = true := by decide +kernel
set_option maxRecDepth 100000 in
theorem c162_0_v : ValidC PPk c162_0 := ct_ok fpk ⟨(hOr_ok (hSplit_ok 0 106 ) (hOr_ok (atPc_ok (fPop_ok 7 106)) (atPc_ok fWords_ok))), noM_ok⟩ (d := 1) (ext := []) (pts := c162_0_pts) (env := c162_0_e) rfl (List.forall_mem_cons.mpr ⟨⟨c163_0_v, Nat.le_of_ble_eq_true rfl⟩, List.forall_mem_cons.mpr ⟨⟨c164_0_v, Nat.le_of_ble_eq_true rfl⟩, fun _ h => (by cases h)⟩⟩) ext_nil (fun q h => (by cases h)) (enF c162_0_k) (List.forall_mem_cons.mpr ⟨ptF c162_0_k0, List.forall_mem_cons.mpr ⟨ptF c162_0_k1, List.forall_mem_cons.mpr ⟨ptF c162_0_k2, List.forall_mem_cons.mpr ⟨ptF c162_0_k3, List.forall_mem_cons.mpr ⟨ptF c162_0_k4, List.forall_mem_cons.mpr ⟨ptF c162_0_k5, List.forall_mem_cons.mpr ⟨ptF c162_0_k6, List.forall_mem_cons.mpr ⟨ptF c162_0_k7, List.forall_mem_cons.mpr ⟨ptF c162_0_k8, List.forall_mem_cons.mpr ⟨ptF c162_0_k9, List.forall_mem_cons.mpr ⟨ptF c162_0_k10, List.forall_mem_cons.mpr ⟨ptF c162_0_k11, List.forall_mem_cons.mpr ⟨ptF c162_0_k12, List.forall_mem_cons.mpr ⟨ptF c162_0_k13, List.forall_mem_cons.mpr ⟨ptF c162_0_k14, List.forall_mem_cons.mpr ⟨ptF c162_0_k15, List.forall_mem_cons.mpr ⟨ptF c162_0_k16, List.forall_mem_cons.mpr ⟨ptF c162_0_k17, List.forall_mem_cons.mpr ⟨ptF c162_0_k18, List.forall_mem_cons.mpr ⟨ptF c162_0_k19, List.forall_mem_cons.mpr ⟨ptF c162_0_k20, List.forall_mem_cons.mpr ⟨ptF c162_0_k21, List.forall_mem_cons.mpr ⟨ptF c162_0_k22, List.forall_mem_cons.mpr ⟨ptF c162_0_k23, List.forall_mem_cons.mpr ⟨ptF c162_0_k24, List.forall_mem_cons.mpr ⟨ptF c162_0_k25, List.forall_mem_cons.mpr ⟨ptF c162_0_k26, List.forall_mem_cons.mpr ⟨ptF c162_0_k27, List.forall_mem_cons.mpr ⟨ptF c162_0_k28, List.forall_mem_cons.mpr ⟨ptF c162_0_k29, List.forall_mem_cons.mpr ⟨ptF c162_0_k30, List.forall_mem_cons.mpr ⟨ptF c162_0_k31, List.forall_mem_cons.mpr ⟨ptF c162_0_k32, List.forall_mem_cons.mpr ⟨ptF c162_0_k33, List.forall_mem_cons.mpr ⟨ptF c162_0_k34, List.forall_mem_cons.mpr ⟨ptF c162_0_k35, List.forall_mem_cons.mpr ⟨ptF c162_0_k36, List.forall_mem_cons.mpr ⟨ptF c162_0_k37, List.forall_mem_cons.mpr ⟨ptF c162_0_k38, List.forall_mem_cons.mpr ⟨ptF c162_0_k39, List.forall_mem_cons.mpr ⟨ptF c162_0_k40, List.forall_mem_cons.mpr ⟨ptF c162_0_k41, List.forall_mem_cons.mpr ⟨ptF c162_0_k42, List.forall_mem_cons.mpr ⟨ptF c162_0_k43, List.forall_mem_cons.mpr ⟨ptF c162_0_k44, List.forall_mem_cons.mpr ⟨ptF c162_0_k45, List.forall_mem_cons.mpr ⟨ptF c162_0_k46, List.forall_mem_cons.mpr ⟨ptF c162_0_k47, List.forall_mem_cons.mpr ⟨ptF c162_0_k48, List.forall_mem_cons.mpr ⟨ptF c162_0_k49, List.forall_mem_cons.mpr ⟨ptF c162_0_k50, List.forall_mem_cons.mpr ⟨ptF c162_0_k51, List.forall_mem_cons.mpr ⟨ptF c162_0_k52, List.forall_mem_cons.mpr ⟨ptF c162_0_k53, List.forall_mem_cons.mpr ⟨ptF c162_0_k54, List.forall_mem_cons.mpr ⟨ptF c162_0_k55, List.forall_mem_cons.mpr ⟨ptF c162_0_k56, List.forall_mem_cons.mpr ⟨ptF c162_0_k57, List.forall_mem_cons.mpr ⟨ptF c162_0_k58, List.forall_mem_cons.mpr ⟨ptF c162_0_k59, List.forall_mem_cons.mpr ⟨ptF c162_0_k60, List.forall_mem_cons.mpr ⟨ptF c162_0_k61, List.forall_mem_cons.mpr ⟨ptF c162_0_k62, List.forall_mem_cons.mpr ⟨ptF c162_0_k63, List.forall_mem_cons.mpr ⟨ptF c162_0_k64, List.forall_mem_cons.mpr ⟨ptF c162_0_k65, List.forall_mem_cons.mpr ⟨ptF c162_0_k66, List.forall_mem_cons.mpr ⟨ptF c162_0_k67, List.forall_mem_cons.mpr ⟨ptF c162_0_k68, List.forall_mem_cons.mpr ⟨ptF c162_0_k69, fun _ h => (by cases h)⟩⟩⟩⟩⟩⟩⟩⟩⟩⟩⟩⟩⟩⟩⟩⟩⟩⟩⟩⟩⟩⟩⟩⟩⟩⟩⟩⟩⟩⟩⟩⟩⟩⟩⟩⟩⟩⟩⟩⟩⟩⟩⟩⟩⟩⟩⟩⟩⟩⟩⟩⟩⟩⟩⟩⟩⟩⟩⟩⟩⟩⟩⟩⟩⟩⟩⟩⟩⟩⟩)

noncomputable def c168_0 : Ct := (168, 1, (1, [(0, (.negSucc 2147483647), (.ofNat 2147483647))], [], [.inl (false, ((.ofNat 0), [(0, (.ofNat 1))]))], [], []),
  [((2, [(1, (.negSucc 0), (.ofNat 5))], [], [.inl (false, ((.ofNat 0), [(1, (.ofNat 1))]))], [], []), 0, 0)])
noncomputable def c168_0_e : List Ct := []
noncomputable def c168_0_pts : List PE := []
set_option maxRecDepth 100000 in
theorem c168_0_k : enCtF c168_0 c168_0_e (c168_0_pts ++ []) (none) noH 3000 = true := by decide +kernel
set_option maxRecDepth 100000 in
theorem c168_0_v : ValidC PPk c168_0 := ct_ok fpk noH_ok (d := 0) (ext := []) (pts := c168_0_pts) (env := c168_0_e) rfl (fun _ h => (by cases h)) ext_nil (fun q h => (by cases h)) (enF c168_0_k) (fun _ h => (by cases h))

def zc325 : AC := .inr (103, .inl [.inl ((.ofNat 0), [(13, (.ofNat 1))])])
def zc326 : AC := .inl (12, [.inr (.inl (some 1)), .inr (.inl (some 2)), .inr (.inl (some 3)), .inl (false, ((.ofNat 0), [(1, (.ofNat 1))])), .inr (.inl (some 4)), .inr (.inl (some 5)), .inl (false, ((.ofNat 1), [(2, (.ofNat 1))])), .inr (.inl (some 6)), .inr (.inl (some 7)), .inl (false, ((.ofNat 0), [(3, (.ofNat 1))])), .inr (.inl (some 8)), .inl (false, ((.ofNat 0), [(4, (.ofNat 1))])), .inr (.inl (some 9)), .inr (.inl (some 10)), .inr (.inl (some 11)), .inr (.inl (some 12)), .inl (false, ((.ofNat 0), [(5, (.ofNat 1))])), .inl (false, ((.ofNat 0), [(6, (.ofNat 1))])), .inl (false, ((.ofNat 0), [(7, (.ofNat 1))])), .inr (.inl (some 13)), .inl (false, ((.ofNat 0), [(8, (.ofNat 1))])), .inl (false, ((.ofNat 0), [(9, (.ofNat 1))])), .inl (false, ((.ofNat 0), [(10, (.ofNat 1))])), .inr (.inl (some 14))])
noncomputable def c167_0 : Ct := (167, 1, (23, [(0, (.ofNat 2), (.ofNat 3)), (1, (.ofNat 0), (.ofNat 69)), (2, (.ofNat 0), (.ofNat 69)), (3, (.ofNat 0), (.ofNat 8)), (4, (.negSucc 2147483647), (.ofNat 2147483647)), (5, (.negSucc 2147483647), (.ofNat 2147483647)), (6, (.negSucc 2147483647), (.ofNat 2147483647)), (7, (.negSucc 2147483647), (.ofNat 2147483647)), (8, (.negSucc 2147483647), (.ofNat 2147483647)), (9, (.negSucc 2147483647), (.ofNat 2147483647)), (10, (.negSucc 2147483647), (.ofNat 2147483647)), (21, (.ofNat 0), (.ofNat 70)), (22, (.ofNat 0), (.ofNat 70))], [], [.inr (.inl (some 0)), .inl (false, ((.ofNat 0), [(0, (.ofNat 1))]))], [zc96,
    zc52,
    zc141,
    zc325,
    zc55,
    zc56,
    zc253,
    .inr (1, .inr (.inl 70)),
    .inr (1, .inr (.inl 8)),
    zc57,
    zc111,
    zc59,
    zc60,
    zc61,
    .inr (1, .inr (.inl 4))], [(2, [1], []), (1, [1], []), (5, [6], [((.ofNat 0), [(2, (.ofNat 1))]), ((.ofNat 0), [(21, (.ofNat 1))]), ((.ofNat 0), [(22, (.ofNat 1))])]), (4, [4], [((.ofNat 0), [(1, (.ofNat 1))]), ((.ofNat 0), [(22, (.ofNat 1))])])]),
  [((23, [], [], [], [zc326,
    zc52,
    zc141,
    zc325,
    zc55,
    zc56,
    zc253,
    .inr (1, .inr (.inl 70)),
    .inr (1, .inr (.inl 8)),
    zc57,
    zc111,
    zc59,
    zc60,
    zc61,
    .inr (1, .inr (.inl 4))], [(2, [1], []), (1, [1], []), (5, [6], [((.ofNat 1), [(2, (.ofNat 1))]), ((.ofNat 0), [(21, (.ofNat 1))]), ((.ofNat 0), [(22, (.ofNat 1))])]), (4, [4], [((.ofNat 0), [(1, (.ofNat 1))]), ((.ofNat 0), [(22, (.ofNat 1))])])]), 0, 0)])
noncomputable def c167_0_e : List Ct := []
noncomputable def c167_0_pts : List PE := []
set_option maxRecDepth 100000 in
theorem c167_0_k : enCtF c167_0 c167_0_e (c167_0_pts ++ []) (none) ((hOr (hSplit 0 106 ) (hOr (atPc 1 (fConst 5 7 106)) (atPc 20 (fStk 7 106)))), noM, 0, 1048579, 23) 3000 = true := by decide +kernel
set_option maxRecDepth 100000 in
theorem c167_0_v : ValidC PPk c167_0 := ct_ok fpk ⟨(hOr_ok (hSplit_ok 0 106 ) (hOr_ok (atPc_ok (fConst_ok 5 7 106)) (atPc_ok (fStk_ok 7 106)))), noM_ok⟩ (d := 0) (ext := []) (pts := c167_0_pts) (env := c167_0_e) rfl (fun _ h => (by cases h)) ext_nil (fun q h => (by cases h)) (enF c167_0_k) (fun _ h => (by cases h))

noncomputable def c167_1 : Ct := (167, 1, (22, [(0, (.ofNat 0), (.ofNat 69)), (1, (.ofNat 0), (.ofNat 69)), (2, (.ofNat 0), (.ofNat 8)), (3, (.negSucc 2147483647), (.ofNat 2147483647)), (4, (.negSucc 2147483647), (.ofNat 2147483647)), (5, (.negSucc 2147483647), (.ofNat 2147483647)), (6, (.negSucc 2147483647), (.ofNat 2147483647)), (7, (.negSucc 2147483647), (.ofNat 2147483647)), (8, (.negSucc 2147483647), (.ofNat 2147483647)), (9, (.negSucc 2147483647), (.ofNat 2147483647)), (20, (.ofNat 0), (.ofNat 70)), (21, (.ofNat 0), (.ofNat 70))], [], [.inr (.inl (some 0)), .inl (false, ((.ofNat 13), []))], [zc177,
    zc51,
    zc52,
    zc255,
    zc54,
    zc55,
    zc253,
    .inr (1, .inr (.inl 70)),
    .inr (1, .inr (.inl 8)),
    zc56,
    zc57,
    zc111,
    zc59,
    zc60,
    .inr (1, .inr (.inl 4))], [(2, [1], []), (1, [1], []), (5, [6], [((.ofNat 0), [(1, (.ofNat 1))]), ((.ofNat 0), [(20, (.ofNat 1))]), ((.ofNat 0), [(21, (.ofNat 1))])]), (4, [4], [((.ofNat 0), [(0, (.ofNat 1))]), ((.ofNat 0), [(21, (.ofNat 1))])])]),
  [((22, [], [], [], [.inl (12, [.inr (.inl (some 1)), .inr (.inl (some 2)), .inr (.inl (some 3)), .inl (false, ((.ofNat 0), [(0, (.ofNat 1))])), .inr (.inl (some 4)), .inr (.inl (some 5)), .inl (false, ((.ofNat 1), [(1, (.ofNat 1))])), .inr (.inl (some 6)), .inr (.inl (some 7)), .inl (false, ((.ofNat 0), [(2, (.ofNat 1))])), .inr (.inl (some 8)), .inl (false, ((.ofNat 0), [(3, (.ofNat 1))])), .inr (.inl (some 9)), .inr (.inl (some 10)), .inr (.inl (some 11)), .inr (.inl (some 12)), .inl (false, ((.ofNat 0), [(4, (.ofNat 1))])), .inl (false, ((.ofNat 0), [(5, (.ofNat 1))])), .inl (false, ((.ofNat 0), [(6, (.ofNat 1))])), .inr (.inl (some 13)), .inl (false, ((.ofNat 0), [(7, (.ofNat 1))])), .inl (false, ((.ofNat 0), [(8, (.ofNat 1))])), .inl (false, ((.ofNat 0), [(9, (.ofNat 1))])), .inr (.inl (some 14))]),
    zc51,
    zc52,
    zc255,
    zc54,
    zc55,
    zc253,
    .inr (1, .inr (.inl 70)),
    .inr (1, .inr (.inl 8)),
    zc56,
    zc57,
    zc111,
    zc59,
    zc60,
    .inr (1, .inr (.inl 4))], [(2, [1], []), (1, [1], []), (5, [6], [((.ofNat 1), [(1, (.ofNat 1))]), ((.ofNat 1), [(20, (.ofNat 1))]), ((.ofNat 0), [(21, (.ofNat 1))])]), (4, [4], [((.ofNat 0), [(0, (.ofNat 1))]), ((.ofNat 0), [(21, (.ofNat 1))])])]), 0, 0)])
noncomputable def c167_1_e : List Ct := []
noncomputable def c167_1_pts : List PE := []
set_option maxRecDepth 100000 in
theorem c167_1_k : enCtF c167_1 c167_1_e (c167_1_pts ++ []) (none) ((hOr (hSplit 0 106 ) (hOr (atPc 1 (fConst 5 7 106)) (atPc 20 (fStk 7 106)))), noM, 0, 1048579, 22) 3000 = true := by decide +kernel
set_option maxRecDepth 100000 in
theorem c167_1_v : ValidC PPk c167_1 := ct_ok fpk ⟨(hOr_ok (hSplit_ok 0 106 ) (hOr_ok (atPc_ok (fConst_ok 5 7 106)) (atPc_ok (fStk_ok 7 106)))), noM_ok⟩ (d := 0) (ext := []) (pts := c167_1_pts) (env := c167_1_e) rfl (fun _ h => (by cases h)) ext_nil (fun q h => (by cases h)) (enF c167_1_k) (fun _ h => (by cases h))

noncomputable def c164_1 : Ct := (164, 1, (23, [(0, (.ofNat 0), (.ofNat 1)), (1, (.negSucc 2147483647), (.ofNat 2147483647)), (2, (.ofNat 0), (.ofNat 69)), (3, (.ofNat 0), (.ofNat 69)), (4, (.ofNat 0), (.ofNat 8)), (5, (.negSucc 2147483647), (.ofNat 2147483647)), (6, (.negSucc 2147483647), (.ofNat 2147483647)), (7, (.negSucc 2147483647), (.ofNat 2147483647)), (8, (.negSucc 2147483647), (.ofNat 2147483647)), (9, (.negSucc 2147483647), (.ofNat 2147483647)), (10, (.negSucc 2147483647), (.ofNat 2147483647)), (11, (.negSucc 2147483647), (.ofNat 2147483647)), (21, (.ofNat 0), (.ofNat 70)), (22, (.ofNat 0), (.ofNat 70))], [], [.inr (.inl (some 0)), .inl (false, ((.ofNat 0), [(0, (.ofNat 1))])), .inl (false, ((.ofNat 0), [(1, (.ofNat 1))]))], [zc200,
    zc141,
    zc54,
    zc252,
    zc253,
    zc253,
    zc56,
    .inr (1, .inr (.inl 70)),
    .inr (1, .inr (.inl 8)),
    zc57,
    zc111,
    zc59,
    zc60,
    zc61,
    .inr (1, .inr (.inl 4))], [(2, [1], []), (1, [1], []), (5, [6], [((.ofNat 0), [(3, (.ofNat 1))]), ((.ofNat 0), [(21, (.ofNat 1))]), ((.ofNat 0), [(22, (.ofNat 1))])]), (4, [4], [((.ofNat 0), [(2, (.ofNat 1))]), ((.ofNat 0), [(22, (.ofNat 1))])])]),
  [((23, [], [], [], [zc254,
    zc141,
    zc54,
    zc252,
    zc253,
    zc253,
    zc56,
    .inr (1, .inr (.inl 70)),
    .inr (1, .inr (.inl 8)),
    zc57,
    zc111,
    zc59,
    zc60,
    zc61,
    .inr (1, .inr (.inl 4))], [(2, [1], []), (1, [1], []), (5, [6], [((.ofNat 0), [(3, (.ofNat 1))]), ((.ofNat 0), [(21, (.ofNat 1))]), ((.ofNat 0), [(22, (.ofNat 1))])]), (4, [4], [((.ofNat 1), [(2, (.ofNat 1))]), ((.ofNat 1), [(22, (.ofNat 1))])])]), 0, 0)])
noncomputable def c164_1_e : List Ct := []
noncomputable def c164_1_pts : List PE := []
set_option maxRecDepth 100000 in
theorem c164_1_k : enCtF c164_1 c164_1_e (c164_1_pts ++ []) (none) ((hOr (hSplit 0 103 ) (hOr (atPc 1 (fConst 4 4 103)) (atPc 30 (fCode 4 103)))), noM, 0, 1073741827, 23) 3000 = true := by decide +kernel
set_option maxRecDepth 100000 in
theorem c164_1_v : ValidC PPk c164_1 := ct_ok fpk ⟨(hOr_ok (hSplit_ok 0 103 ) (hOr_ok (atPc_ok (fConst_ok 4 4 103)) (atPc_ok (fCode_ok 4 103)))), noM_ok⟩ (d := 0) (ext := []) (pts := c164_1_pts) (env := c164_1_e) rfl (fun _ h => (by cases h)) ext_nil (fun q h => (by cases h)) (enF c164_1_k) (fun _ h => (by cases h))

noncomputable def c163_1 : Ct := (163, 1, (1, [(0, (.ofNat 0), (.ofNat 13))], [], [.inl (false, ((.ofNat 0), [(0, (.ofNat 1))]))], [], []),
  [((1, [(0, (.ofNat 0), (.ofNat 1))], [], [.inl (false, ((.ofNat 0), []))], [], []), 0, 0),
   ((1, [(0, (.ofNat 2), (.ofNat 3))], [], [.inl (false, ((.ofNat 6), []))], [], []), 0, 0),
   ((1, [(0, (.ofNat 4), (.ofNat 5))], [], [.inl (false, ((.ofNat 5), []))], [], []), 0, 0),
   ((1, [(0, (.ofNat 6), (.ofNat 7))], [], [.inl (false, ((.ofNat 4), []))], [], []), 0, 0),
   ((1, [(0, (.ofNat 8), (.ofNat 10))], [], [.inl (false, ((.ofNat 3), []))], [], []), 0, 0),
   ((1, [(0, (.ofNat 11), (.ofNat 11))], [], [.inl (false, ((.ofNat 2), []))], [], []), 0, 0),
   ((1, [(0, (.ofNat 12), (.ofNat 12))], [], [.inl (false, ((.ofNat 1), []))], [], []), 0, 0),
   ((1, [(0, (.ofNat 13), (.ofNat 13))], [], [.inl (false, ((.ofNat 0), []))], [], []), 0, 0)])
noncomputable def c163_1_e : List Ct := []
noncomputable def c163_1_pts : List PE := []
set_option maxRecDepth 100000 in
theorem c163_1_k : enCtF c163_1 c163_1_e (c163_1_pts ++ []) (some (0, 0, 14)) noH 3000 = true := by decide +kernel
set_option maxRecDepth 100000 in
theorem c163_1_v : ValidC PPk c163_1 := ct_ok fpk noH_ok (d := 0) (ext := []) (pts := c163_1_pts) (env := c163_1_e) rfl (fun _ h => (by cases h)) ext_nil (fun q h => (by cases h; exact Nat.le_of_ble_eq_true rfl)) (enF c163_1_k) (fun _ h => (by cases h))

noncomputable def c164_2 : Ct := (164, 1, (23, [(0, (.ofNat 2), (.ofNat 3)), (1, (.negSucc 2147483647), (.ofNat 2147483647)), (2, (.ofNat 0), (.ofNat 69)), (3, (.ofNat 0), (.ofNat 69)), (4, (.ofNat 0), (.ofNat 8)), (5, (.negSucc 2147483647), (.ofNat 2147483647)), (6, (.negSucc 2147483647), (.ofNat 2147483647)), (7, (.negSucc 2147483647), (.ofNat 2147483647)), (8, (.negSucc 2147483647), (.ofNat 2147483647)), (9, (.negSucc 2147483647), (.ofNat 2147483647)), (10, (.negSucc 2147483647), (.ofNat 2147483647)), (11, (.negSucc 2147483647), (.ofNat 2147483647)), (21, (.ofNat 0), (.ofNat 70)), (22, (.ofNat 0), (.ofNat 70))], [], [.inr (.inl (some 0)), .inl (false, ((.ofNat 0), [(0, (.ofNat 1))])), .inl (false, ((.ofNat 0), [(1, (.ofNat 1))]))], [zc200,
    zc141,
    zc54,
    zc252,
    zc253,
    zc253,
    zc56,
    .inr (1, .inr (.inl 70)),
    .inr (1, .inr (.inl 8)),
    zc57,
    zc111,
    zc59,
    zc60,
    zc61,
    .inr (1, .inr (.inl 4))], [(2, [1], []), (1, [1], []), (5, [6], [((.ofNat 0), [(3, (.ofNat 1))]), ((.ofNat 0), [(21, (.ofNat 1))]), ((.ofNat 0), [(22, (.ofNat 1))])]), (4, [4], [((.ofNat 0), [(2, (.ofNat 1))]), ((.ofNat 1), [(22, (.ofNat 1))])])]),
  [((23, [], [], [], [zc254,
    zc141,
    zc54,
    zc252,
    zc253,
    zc253,
    zc56,
    .inr (1, .inr (.inl 70)),
    .inr (1, .inr (.inl 8)),
    zc57,
    zc111,
    zc59,
    zc60,
    zc61,
    .inr (1, .inr (.inl 4))], [(2, [1], []), (1, [1], []), (5, [6], [((.ofNat 0), [(3, (.ofNat 1))]), ((.ofNat 0), [(21, (.ofNat 1))]), ((.ofNat 0), [(22, (.ofNat 1))])]), (4, [4], [((.ofNat 1), [(2, (.ofNat 1))]), ((.ofNat 1), [(22, (.ofNat 1))])])]), 0, 0)])
noncomputable def c164_2_e : List Ct := []
noncomputable def c164_2_pts : List PE := []
set_option maxRecDepth 100000 in
theorem c164_2_k : enCtF c164_2 c164_2_e (c164_2_pts ++ []) (none) ((hOr (hSplit 0 103 ) (hOr (atPc 1 (fConst 4 4 103)) (atPc 30 (fCode 4 103)))), noM, 0, 1073741827, 23) 3000 = true := by decide +kernel
set_option maxRecDepth 100000 in
theorem c164_2_v : ValidC PPk c164_2 := ct_ok fpk ⟨(hOr_ok (hSplit_ok 0 103 ) (hOr_ok (atPc_ok (fConst_ok 4 4 103)) (atPc_ok (fCode_ok 4 103)))), noM_ok⟩ (d := 0) (ext := []) (pts := c164_2_pts) (env := c164_2_e) rfl (fun _ h => (by cases h)) ext_nil (fun q h => (by cases h)) (enF c164_2_k) (fun _ h => (by cases h))

noncomputable def c164_3 : Ct := (164, 1, (23, [(0, (.ofNat 4), (.ofNat 12)), (1, (.negSucc 2147483647), (.ofNat 2147483647)), (2, (.ofNat 0), (.ofNat 69)), (3, (.ofNat 0), (.ofNat 69)), (4, (.ofNat 0), (.ofNat 8)), (5, (.negSucc 2147483647), (.ofNat 2147483647)), (6, (.negSucc 2147483647), (.ofNat 2147483647)), (7, (.negSucc 2147483647), (.ofNat 2147483647)), (8, (.negSucc 2147483647), (.ofNat 2147483647)), (9, (.negSucc 2147483647), (.ofNat 2147483647)), (10, (.negSucc 2147483647), (.ofNat 2147483647)), (11, (.negSucc 2147483647), (.ofNat 2147483647)), (21, (.ofNat 0), (.ofNat 70)), (22, (.ofNat 0), (.ofNat 70))], [], [.inr (.inl (some 0)), .inl (false, ((.ofNat 0), [(0, (.ofNat 1))])), .inl (false, ((.ofNat 0), [(1, (.ofNat 1))]))], [zc200,
    zc141,
    zc54,
    zc252,
    zc253,
    zc253,
    zc56,
    .inr (1, .inr (.inl 70)),
    .inr (1, .inr (.inl 8)),
    zc57,
    zc111,
    zc59,
    zc60,
    zc61,
    .inr (1, .inr (.inl 4))], [(2, [1], []), (1, [1], []), (5, [6], [((.ofNat 0), [(3, (.ofNat 1))]), ((.ofNat 0), [(21, (.ofNat 1))]), ((.ofNat 0), [(22, (.ofNat 1))])]), (4, [4], [((.ofNat 0), [(2, (.ofNat 1))]), ((.ofNat 2), [(22, (.ofNat 1))])])]),
  [((23, [], [], [], [zc254,
    zc141,
    zc54,
    zc252,
    zc253,
    zc253,
    zc56,
    .inr (1, .inr (.inl 70)),
    .inr (1, .inr (.inl 8)),
    zc57,
    zc111,
    zc59,
    zc60,
    zc61,
    .inr (1, .inr (.inl 4))], [(2, [1], []), (1, [1], []), (5, [6], [((.ofNat 0), [(3, (.ofNat 1))]), ((.ofNat 0), [(21, (.ofNat 1))]), ((.ofNat 0), [(22, (.ofNat 1))])]), (4, [4], [((.ofNat 1), [(2, (.ofNat 1))]), ((.ofNat 1), [(22, (.ofNat 1))])])]), 0, 0)])
noncomputable def c164_3_e : List Ct := []
noncomputable def c164_3_pts : List PE := []
set_option maxRecDepth 100000 in
theorem c164_3_k : enCtF c164_3 c164_3_e (c164_3_pts ++ []) (none) ((hOr (hSplit 0 103 ) (hOr (atPc 1 (fConst 4 4 103)) (atPc 30 (fCode 4 103)))), noM, 0, 1073741827, 23) 3000 = true := by decide +kernel
set_option maxRecDepth 100000 in
theorem c164_3_v : ValidC PPk c164_3 := ct_ok fpk ⟨(hOr_ok (hSplit_ok 0 103 ) (hOr_ok (atPc_ok (fConst_ok 4 4 103)) (atPc_ok (fCode_ok 4 103)))), noM_ok⟩ (d := 0) (ext := []) (pts := c164_3_pts) (env := c164_3_e) rfl (fun _ h => (by cases h)) ext_nil (fun q h => (by cases h)) (enF c164_3_k) (fun _ h => (by cases h))
