/-! ===== contracts, written by wip/vse3/emitlaw.py ===== -/
noncomputable def c150_1 : Ct := (150, 2, (37, (zt2 [qtA 33, qtA 34, qtA 35]), [((.ofNat 1), [(19, (.negSucc 0)), (20, (.negSucc 0)), (21, (.negSucc 0)), (22, (.negSucc 0))])], [qvR 0, qvS 33, qvS 34, qvS 35], zh48, [(2, [1], []), (1, [1], []), (17, [1], [((.ofNat 692), []), (sL 12), (sL 36)]), (14, [], [(sL 36), (sL 34), (sL 35), ((.ofNat 0), [])])]),
  [((37, [qtN 12 0 0, (33, (.negSucc 2147483647), (.negSucc 0))], [], [qvK (.negSucc 1)], zh48, [(2, [1], []), (1, [1], []), (17, [1], [((.ofNat 692), []), (sL 12), (sL 36)]), (14, [], [(sL 36), (sL 34), (sL 35), ((.ofNat 0), [])])]), 0, 0),
   ((37, [qtN 12 0 0, qtN 33 6 2147483647], [], [qvK (.negSucc 1)], zh48, [(2, [1], []), (1, [1], []), (17, [1], [((.ofNat 692), []), (sL 12), (sL 36)]), (14, [], [(sL 36), (sL 34), (sL 35), ((.ofNat 0), [])])]), 0, 0),
   ((37, [qtN 12 0 0, qtN 33 0 5, (34, (.negSucc 2147483647), (.negSucc 0))], [], [qvK (.negSucc 1)], zh48, [(2, [1], []), (1, [1], []), (17, [1], [((.ofNat 692), []), (sL 12), (sL 36)]), (14, [], [(sL 36), (sL 34), (sL 35), ((.ofNat 0), [])])]), 0, 0),
   ((37, [qtN 12 0 0, qtN 33 0 5, qtN 34 40 2147483647], [], [qvK (.negSucc 1)], zh48, [(2, [1], []), (1, [1], []), (17, [1], [((.ofNat 692), []), (sL 12), (sL 36)]), (14, [], [(sL 36), (sL 34), (sL 35), ((.ofNat 0), [])])]), 0, 0),
   ((37, [qtN 12 0 0, qtN 33 0 5, qtN 34 0 39, (35, (.negSucc 2147483647), (.ofNat 0))], [], [qvK (.negSucc 1)], zh48, [(2, [1], []), (1, [1], []), (17, [1], [((.ofNat 692), []), (sL 12), (sL 36)]), (14, [], [(sL 36), (sL 34), (sL 35), ((.ofNat 0), [])])]), 0, 0),
   ((37, [qtN 12 0 0, qtN 33 0 5, qtN 34 0 39, qtN 35 41 2147483647], [], [qvK (.negSucc 1)], zh48, [(2, [1], []), (1, [1], []), (17, [1], [((.ofNat 692), []), (sL 12), (sL 36)]), (14, [], [(sL 36), (sL 34), (sL 35), ((.ofNat 0), [])])]), 0, 0),
   ((38, [qtN 33 0 5, qtN 34 0 39, qtN 35 1 40, qtN 37 0 7], [], [qvK (.negSucc 2)], zh48, [(2, [1], []), (1, [1], []), (20, [1], [((.ofNat 692), []), (sL 37), (sL 34), (sL 35)]), (17, [1], [((.ofNat 692), []), (sL 12), (sL 36)]), (14, [], [(sL 36), (sL 34), (sL 35), ((.ofNat 0), [])])]), 0, 0),
   ((37, [qtN 12 1 1, (33, (.negSucc 2147483647), (.negSucc 0))], [], [qvK (.negSucc 1)], zh48, [(2, [1], []), (1, [1], []), (17, [1], [((.ofNat 692), []), (sL 12), (sL 36)]), (14, [], [(sL 36), (sL 34), (sL 35), ((.ofNat 0), [])])]), 0, 0),
   ((37, [qtN 12 1 1, qtN 33 6 2147483647], [], [qvK (.negSucc 1)], zh48, [(2, [1], []), (1, [1], []), (17, [1], [((.ofNat 692), []), (sL 12), (sL 36)]), (14, [], [(sL 36), (sL 34), (sL 35), ((.ofNat 0), [])])]), 0, 0),
   ((37, [qtN 12 1 1, qtN 33 0 5, (34, (.negSucc 2147483647), (.negSucc 0))], [], [qvK (.negSucc 1)], zh48, [(2, [1], []), (1, [1], []), (17, [1], [((.ofNat 692), []), (sL 12), (sL 36)]), (14, [], [(sL 36), (sL 34), (sL 35), ((.ofNat 0), [])])]), 0, 0),
   ((37, [qtN 12 1 1, qtN 33 0 5, qtN 34 40 2147483647], [], [qvK (.negSucc 1)], zh48, [(2, [1], []), (1, [1], []), (17, [1], [((.ofNat 692), []), (sL 12), (sL 36)]), (14, [], [(sL 36), (sL 34), (sL 35), ((.ofNat 0), [])])]), 0, 0),
   ((37, [qtN 12 1 1, qtN 33 0 5, qtN 34 0 39, (35, (.negSucc 2147483647), (.ofNat 0))], [], [qvK (.negSucc 1)], zh48, [(2, [1], []), (1, [1], []), (17, [1], [((.ofNat 692), []), (sL 12), (sL 36)]), (14, [], [(sL 36), (sL 34), (sL 35), ((.ofNat 0), [])])]), 0, 0),
   ((37, [qtN 12 1 1, qtN 33 0 5, qtN 34 0 39, qtN 35 41 2147483647], [], [qvK (.negSucc 1)], zh48, [(2, [1], []), (1, [1], []), (17, [1], [((.ofNat 692), []), (sL 12), (sL 36)]), (14, [], [(sL 36), (sL 34), (sL 35), ((.ofNat 0), [])])]), 0, 0),
   ((37, [qtN 12 2 2, (33, (.negSucc 2147483647), (.negSucc 0))], [], [qvK (.negSucc 1)], zh48, [(2, [1], []), (1, [1], []), (17, [1], [((.ofNat 692), []), (sL 12), (sL 36)]), (14, [], [(sL 36), (sL 34), (sL 35), ((.ofNat 0), [])])]), 0, 0),
   ((37, [qtN 12 2 2, qtN 33 6 2147483647], [], [qvK (.negSucc 1)], zh48, [(2, [1], []), (1, [1], []), (17, [1], [((.ofNat 692), []), (sL 12), (sL 36)]), (14, [], [(sL 36), (sL 34), (sL 35), ((.ofNat 0), [])])]), 0, 0),
   ((37, [qtN 12 2 2, qtN 33 0 5, (34, (.negSucc 2147483647), (.negSucc 0))], [], [qvK (.negSucc 1)], zh48, [(2, [1], []), (1, [1], []), (17, [1], [((.ofNat 692), []), (sL 12), (sL 36)]), (14, [], [(sL 36), (sL 34), (sL 35), ((.ofNat 0), [])])]), 0, 0),
   ((37, [qtN 12 2 2, qtN 33 0 5, qtN 34 40 2147483647], [], [qvK (.negSucc 1)], zh48, [(2, [1], []), (1, [1], []), (17, [1], [((.ofNat 692), []), (sL 12), (sL 36)]), (14, [], [(sL 36), (sL 34), (sL 35), ((.ofNat 0), [])])]), 0, 0),
   ((37, [qtN 12 2 2, qtN 33 0 5, qtN 34 0 39, (35, (.negSucc 2147483647), (.ofNat 0))], [], [qvK (.negSucc 1)], zh48, [(2, [1], []), (1, [1], []), (17, [1], [((.ofNat 692), []), (sL 12), (sL 36)]), (14, [], [(sL 36), (sL 34), (sL 35), ((.ofNat 0), [])])]), 0, 0),
   ((37, [qtN 12 2 2, qtN 33 0 5, qtN 34 0 39, qtN 35 41 2147483647], [], [qvK (.negSucc 1)], zh48, [(2, [1], []), (1, [1], []), (17, [1], [((.ofNat 692), []), (sL 12), (sL 36)]), (14, [], [(sL 36), (sL 34), (sL 35), ((.ofNat 0), [])])]), 0, 0),
   ((37, [qtN 12 3 3, (33, (.negSucc 2147483647), (.negSucc 0))], [], [qvK (.negSucc 1)], zh48, [(2, [1], []), (1, [1], []), (17, [1], [((.ofNat 692), []), (sL 12), (sL 36)]), (14, [], [(sL 36), (sL 34), (sL 35), ((.ofNat 0), [])])]), 0, 0),
   ((37, [qtN 12 3 3, qtN 33 6 2147483647], [], [qvK (.negSucc 1)], zh48, [(2, [1], []), (1, [1], []), (17, [1], [((.ofNat 692), []), (sL 12), (sL 36)]), (14, [], [(sL 36), (sL 34), (sL 35), ((.ofNat 0), [])])]), 0, 0),
   ((37, [qtN 12 3 3, qtN 33 0 5, (34, (.negSucc 2147483647), (.negSucc 0))], [], [qvK (.negSucc 1)], zh48, [(2, [1], []), (1, [1], []), (17, [1], [((.ofNat 692), []), (sL 12), (sL 36)]), (14, [], [(sL 36), (sL 34), (sL 35), ((.ofNat 0), [])])]), 0, 0),
   ((37, [qtN 12 3 3, qtN 33 0 5, qtN 34 40 2147483647], [], [qvK (.negSucc 1)], zh48, [(2, [1], []), (1, [1], []), (17, [1], [((.ofNat 692), []), (sL 12), (sL 36)]), (14, [], [(sL 36), (sL 34), (sL 35), ((.ofNat 0), [])])]), 0, 0),
   ((37, [qtN 12 3 3, qtN 33 0 5, qtN 34 0 39, (35, (.negSucc 2147483647), (.ofNat 0))], [], [qvK (.negSucc 1)], zh48, [(2, [1], []), (1, [1], []), (17, [1], [((.ofNat 692), []), (sL 12), (sL 36)]), (14, [], [(sL 36), (sL 34), (sL 35), ((.ofNat 0), [])])]), 0, 0),
   ((37, [qtN 12 3 3, qtN 33 0 5, qtN 34 0 39, qtN 35 41 2147483647], [], [qvK (.negSucc 1)], zh48, [(2, [1], []), (1, [1], []), (17, [1], [((.ofNat 692), []), (sL 12), (sL 36)]), (14, [], [(sL 36), (sL 34), (sL 35), ((.ofNat 0), [])])]), 0, 0),
   ((37, [qtN 12 4 4, (33, (.negSucc 2147483647), (.negSucc 0))], [], [qvK (.negSucc 1)], zh48, [(2, [1], []), (1, [1], []), (17, [1], [((.ofNat 692), []), (sL 12), (sL 36)]), (14, [], [(sL 36), (sL 34), (sL 35), ((.ofNat 0), [])])]), 0, 0),
   ((37, [qtN 12 4 4, qtN 33 6 2147483647], [], [qvK (.negSucc 1)], zh48, [(2, [1], []), (1, [1], []), (17, [1], [((.ofNat 692), []), (sL 12), (sL 36)]), (14, [], [(sL 36), (sL 34), (sL 35), ((.ofNat 0), [])])]), 0, 0),
   ((37, [qtN 12 4 4, qtN 33 0 5, (34, (.negSucc 2147483647), (.negSucc 0))], [], [qvK (.negSucc 1)], zh48, [(2, [1], []), (1, [1], []), (17, [1], [((.ofNat 692), []), (sL 12), (sL 36)]), (14, [], [(sL 36), (sL 34), (sL 35), ((.ofNat 0), [])])]), 0, 0),
   ((37, [qtN 12 4 4, qtN 33 0 5, qtN 34 40 2147483647], [], [qvK (.negSucc 1)], zh48, [(2, [1], []), (1, [1], []), (17, [1], [((.ofNat 692), []), (sL 12), (sL 36)]), (14, [], [(sL 36), (sL 34), (sL 35), ((.ofNat 0), [])])]), 0, 0),
   ((37, [qtN 12 4 4, qtN 33 0 5, qtN 34 0 39, (35, (.negSucc 2147483647), (.ofNat 0))], [], [qvK (.negSucc 1)], zh48, [(2, [1], []), (1, [1], []), (17, [1], [((.ofNat 692), []), (sL 12), (sL 36)]), (14, [], [(sL 36), (sL 34), (sL 35), ((.ofNat 0), [])])]), 0, 0),
   ((37, [qtN 12 4 4, qtN 33 0 5, qtN 34 0 39, qtN 35 41 2147483647], [], [qvK (.negSucc 1)], zh48, [(2, [1], []), (1, [1], []), (17, [1], [((.ofNat 692), []), (sL 12), (sL 36)]), (14, [], [(sL 36), (sL 34), (sL 35), ((.ofNat 0), [])])]), 0, 0),
   ((37, [qtN 12 5 5, (33, (.negSucc 2147483647), (.negSucc 0))], [], [qvK (.negSucc 1)], zh48, [(2, [1], []), (1, [1], []), (17, [1], [((.ofNat 692), []), (sL 12), (sL 36)]), (14, [], [(sL 36), (sL 34), (sL 35), ((.ofNat 0), [])])]), 0, 0),
   ((37, [qtN 12 5 5, qtN 33 6 2147483647], [], [qvK (.negSucc 1)], zh48, [(2, [1], []), (1, [1], []), (17, [1], [((.ofNat 692), []), (sL 12), (sL 36)]), (14, [], [(sL 36), (sL 34), (sL 35), ((.ofNat 0), [])])]), 0, 0),
   ((37, [qtN 12 5 5, qtN 33 0 5, (34, (.negSucc 2147483647), (.negSucc 0))], [], [qvK (.negSucc 1)], zh48, [(2, [1], []), (1, [1], []), (17, [1], [((.ofNat 692), []), (sL 12), (sL 36)]), (14, [], [(sL 36), (sL 34), (sL 35), ((.ofNat 0), [])])]), 0, 0),
   ((37, [qtN 12 5 5, qtN 33 0 5, qtN 34 40 2147483647], [], [qvK (.negSucc 1)], zh48, [(2, [1], []), (1, [1], []), (17, [1], [((.ofNat 692), []), (sL 12), (sL 36)]), (14, [], [(sL 36), (sL 34), (sL 35), ((.ofNat 0), [])])]), 0, 0),
   ((37, [qtN 12 5 5, qtN 33 0 5, qtN 34 0 39, (35, (.negSucc 2147483647), (.ofNat 0))], [], [qvK (.negSucc 1)], zh48, [(2, [1], []), (1, [1], []), (17, [1], [((.ofNat 692), []), (sL 12), (sL 36)]), (14, [], [(sL 36), (sL 34), (sL 35), ((.ofNat 0), [])])]), 0, 0),
   ((37, [qtN 12 5 5, qtN 33 0 5, qtN 34 0 39, qtN 35 41 2147483647], [], [qvK (.negSucc 1)], zh48, [(2, [1], []), (1, [1], []), (17, [1], [((.ofNat 692), []), (sL 12), (sL 36)]), (14, [], [(sL 36), (sL 34), (sL 35), ((.ofNat 0), [])])]), 0, 0),
   ((37, [qtN 12 6 6, (33, (.negSucc 2147483647), (.negSucc 0))], [], [qvK (.negSucc 1)], zh48, [(2, [1], []), (1, [1], []), (17, [1], [((.ofNat 692), []), (sL 12), (sL 36)]), (14, [], [(sL 36), (sL 34), (sL 35), ((.ofNat 0), [])])]), 0, 0),
   ((37, [qtN 12 6 6, qtN 33 6 2147483647], [], [qvK (.negSucc 1)], zh48, [(2, [1], []), (1, [1], []), (17, [1], [((.ofNat 692), []), (sL 12), (sL 36)]), (14, [], [(sL 36), (sL 34), (sL 35), ((.ofNat 0), [])])]), 0, 0),
   ((37, [qtN 12 6 6, qtN 33 0 5, (34, (.negSucc 2147483647), (.negSucc 0))], [], [qvK (.negSucc 1)], zh48, [(2, [1], []), (1, [1], []), (17, [1], [((.ofNat 692), []), (sL 12), (sL 36)]), (14, [], [(sL 36), (sL 34), (sL 35), ((.ofNat 0), [])])]), 0, 0),
   ((37, [qtN 12 6 6, qtN 33 0 5, qtN 34 40 2147483647], [], [qvK (.negSucc 1)], zh48, [(2, [1], []), (1, [1], []), (17, [1], [((.ofNat 692), []), (sL 12), (sL 36)]), (14, [], [(sL 36), (sL 34), (sL 35), ((.ofNat 0), [])])]), 0, 0),
   ((37, [qtN 12 6 6, qtN 33 0 5, qtN 34 0 39, (35, (.negSucc 2147483647), (.ofNat 0))], [], [qvK (.negSucc 1)], zh48, [(2, [1], []), (1, [1], []), (17, [1], [((.ofNat 692), []), (sL 12), (sL 36)]), (14, [], [(sL 36), (sL 34), (sL 35), ((.ofNat 0), [])])]), 0, 0),
   ((37, [qtN 12 6 6, qtN 33 0 5, qtN 34 0 39, qtN 35 41 2147483647], [], [qvK (.negSucc 1)], zh48, [(2, [1], []), (1, [1], []), (17, [1], [((.ofNat 692), []), (sL 12), (sL 36)]), (14, [], [(sL 36), (sL 34), (sL 35), ((.ofNat 0), [])])]), 0, 0),
   ((37, [qtN 12 7 7, (33, (.negSucc 2147483647), (.negSucc 0))], [], [qvK (.negSucc 1)], zh48, [(2, [1], []), (1, [1], []), (17, [1], [((.ofNat 692), []), (sL 12), (sL 36)]), (14, [], [(sL 36), (sL 34), (sL 35), ((.ofNat 0), [])])]), 0, 0),
   ((37, [qtN 12 7 7, qtN 33 6 2147483647], [], [qvK (.negSucc 1)], zh48, [(2, [1], []), (1, [1], []), (17, [1], [((.ofNat 692), []), (sL 12), (sL 36)]), (14, [], [(sL 36), (sL 34), (sL 35), ((.ofNat 0), [])])]), 0, 0),
   ((37, [qtN 12 7 7, qtN 33 0 5, (34, (.negSucc 2147483647), (.negSucc 0))], [], [qvK (.negSucc 1)], zh48, [(2, [1], []), (1, [1], []), (17, [1], [((.ofNat 692), []), (sL 12), (sL 36)]), (14, [], [(sL 36), (sL 34), (sL 35), ((.ofNat 0), [])])]), 0, 0),
   ((37, [qtN 12 7 7, qtN 33 0 5, qtN 34 40 2147483647], [], [qvK (.negSucc 1)], zh48, [(2, [1], []), (1, [1], []), (17, [1], [((.ofNat 692), []), (sL 12), (sL 36)]), (14, [], [(sL 36), (sL 34), (sL 35), ((.ofNat 0), [])])]), 0, 0),
   ((37, [qtN 12 7 7, qtN 33 0 5, qtN 34 0 39, (35, (.negSucc 2147483647), (.ofNat 0))], [], [qvK (.negSucc 1)], zh48, [(2, [1], []), (1, [1], []), (17, [1], [((.ofNat 692), []), (sL 12), (sL 36)]), (14, [], [(sL 36), (sL 34), (sL 35), ((.ofNat 0), [])])]), 0, 0),
   ((37, [qtN 12 7 7, qtN 33 0 5, qtN 34 0 39, qtN 35 41 2147483647], [], [qvK (.negSucc 1)], zh48, [(2, [1], []), (1, [1], []), (17, [1], [((.ofNat 692), []), (sL 12), (sL 36)]), (14, [], [(sL 36), (sL 34), (sL 35), ((.ofNat 0), [])])]), 0, 0),
   ((37, [qtN 12 8 8, (33, (.negSucc 2147483647), (.negSucc 0))], [], [qvK (.negSucc 1)], zh48, [(2, [1], []), (1, [1], []), (17, [1], [((.ofNat 692), []), (sL 12), (sL 36)]), (14, [], [(sL 36), (sL 34), (sL 35), ((.ofNat 0), [])])]), 0, 0),
   ((37, [qtN 12 8 8, qtN 33 6 2147483647], [], [qvK (.negSucc 1)], zh48, [(2, [1], []), (1, [1], []), (17, [1], [((.ofNat 692), []), (sL 12), (sL 36)]), (14, [], [(sL 36), (sL 34), (sL 35), ((.ofNat 0), [])])]), 0, 0),
   ((37, [qtN 12 8 8, qtN 33 0 5, (34, (.negSucc 2147483647), (.negSucc 0))], [], [qvK (.negSucc 1)], zh48, [(2, [1], []), (1, [1], []), (17, [1], [((.ofNat 692), []), (sL 12), (sL 36)]), (14, [], [(sL 36), (sL 34), (sL 35), ((.ofNat 0), [])])]), 0, 0),
   ((37, [qtN 12 8 8, qtN 33 0 5, qtN 34 40 2147483647], [], [qvK (.negSucc 1)], zh48, [(2, [1], []), (1, [1], []), (17, [1], [((.ofNat 692), []), (sL 12), (sL 36)]), (14, [], [(sL 36), (sL 34), (sL 35), ((.ofNat 0), [])])]), 0, 0),
   ((37, [qtN 12 8 8, qtN 33 0 5, qtN 34 0 39, (35, (.negSucc 2147483647), (.ofNat 0))], [], [qvK (.negSucc 1)], zh48, [(2, [1], []), (1, [1], []), (17, [1], [((.ofNat 692), []), (sL 12), (sL 36)]), (14, [], [(sL 36), (sL 34), (sL 35), ((.ofNat 0), [])])]), 0, 0),
   ((37, [qtN 12 8 8, qtN 33 0 5, qtN 34 0 39, qtN 35 41 2147483647], [], [qvK (.negSucc 1)], zh48, [(2, [1], []), (1, [1], []), (17, [1], [((.ofNat 692), []), (sL 12), (sL 36)]), (14, [], [(sL 36), (sL 34), (sL 35), ((.ofNat 0), [])])]), 0, 0)])
noncomputable def c150_1_e : List Ct := [c145_0]
noncomputable def c150_1_p0 : PE := (46, [0, 1, 2, 3, 4], (37, (zt7 [qtN 33 0 5, qtN 34 0 39, qtN 35 1 40]), [((.negSucc 39), [(34, (.ofNat 1)), (35, (.ofNat 1))]), ((.ofNat 1), [(19, (.negSucc 0)), (20, (.negSucc 0)), (21, (.negSucc 0)), (22, (.negSucc 0))])], [qvR 0, qvS 33, qvS 34, qvS 35, qvK (.ofNat 0)], zh48, [(2, [1], []), (1, [1], []), (20, [1], [((.ofNat 692), []), ((.ofNat 0), []), (sL 34), (sL 35)]), (17, [1], [((.ofNat 692), []), (sL 12), (sL 36)]), (14, [], [(sL 36), (sL 34), (sL 35), ((.ofNat 0), [])])]), symsL 37 0, some ((.ofNat 17), []), 0, 0)
noncomputable def c150_1_p1 : PE := (46, [0, 1, 2, 3, 4], (37, (zt8 [qtN 33 0 5, qtN 34 0 39, qtN 35 1 40]), [((.negSucc 39), [(34, (.ofNat 1)), (35, (.ofNat 1))]), ((.ofNat 1), [(19, (.negSucc 0)), (20, (.negSucc 0)), (21, (.negSucc 0)), (22, (.negSucc 0))])], [qvR 0, qvS 33, qvS 34, qvS 35, qvK (.ofNat 0)], zh48, [(2, [1], []), (1, [1], []), (20, [1], [((.ofNat 692), []), ((.ofNat 0), []), (sL 34), (sL 35)]), (17, [1], [((.ofNat 692), []), (sL 12), (sL 36)]), (14, [], [(sL 36), (sL 34), (sL 35), ((.ofNat 0), [])])]), symsL 37 0, some ((.ofNat 17), []), 0, 0)
noncomputable def c150_1_p2 : PE := (46, [0, 1, 2, 3, 4, 5], (37, (zt8 [qtN 33 0 5, qtN 34 0 39, qtN 35 1 40]), [((.negSucc 39), [(34, (.ofNat 1)), (35, (.ofNat 1))]), ((.ofNat 1), [(19, (.negSucc 0)), (20, (.negSucc 0)), (21, (.negSucc 0)), (22, (.negSucc 0))])], [qvR 0, qvS 33, qvS 34, qvS 35, qvK (.ofNat 1), qvK (.ofNat 692)], zh48, [(2, [1], []), (1, [1], []), (20, [1], [((.ofNat 692), []), ((.ofNat 1), []), (sL 34), (sL 35)]), (17, [1], [((.ofNat 692), []), (sL 12), (sL 36)]), (14, [], [(sL 36), (sL 34), (sL 35), ((.ofNat 0), [])])]), symsL 37 0, some ((.ofNat 16), []), 0, 0)
noncomputable def c150_1_p3 : PE := (46, [0, 1, 2, 3, 4], (37, (zt9 [qtN 33 0 5, qtN 34 0 39, qtN 35 1 40]), [((.negSucc 39), [(34, (.ofNat 1)), (35, (.ofNat 1))]), ((.ofNat 1), [(19, (.negSucc 0)), (20, (.negSucc 0)), (21, (.negSucc 0)), (22, (.negSucc 0))])], [qvR 0, qvS 33, qvS 34, qvS 35, qvK (.ofNat 0)], zh48, [(2, [1], []), (1, [1], []), (20, [1], [((.ofNat 692), []), ((.ofNat 0), []), (sL 34), (sL 35)]), (17, [1], [((.ofNat 692), []), (sL 12), (sL 36)]), (14, [], [(sL 36), (sL 34), (sL 35), ((.ofNat 0), [])])]), symsL 37 0, some ((.ofNat 17), []), 0, 0)
noncomputable def c150_1_p4 : PE := (46, [0, 1, 2, 3, 4, 5], (39, (zt9 [qtN 33 0 5, qtN 34 0 39, qtN 35 1 40, qtN 37 1 2, qtN 38 692 695]), [((.negSucc 39), [(34, (.ofNat 1)), (35, (.ofNat 1))]), ((.ofNat 1), [(19, (.negSucc 0)), (20, (.negSucc 0)), (21, (.negSucc 0)), (22, (.negSucc 0))])], [qvR 0, qvS 33, qvS 34, qvS 35, qvS 37, qvS 38], zh48, [(2, [1], []), (1, [1], []), (20, [1], [((.ofNat 692), []), (sL 37), (sL 34), (sL 35)]), (17, [1], [((.ofNat 692), []), (sL 12), (sL 36)]), (14, [], [(sL 36), (sL 34), (sL 35), ((.ofNat 0), [])])]), symsL 37 0, some ((.ofNat 17), [(37, (.negSucc 0))]), 0, 0)
noncomputable def c150_1_p5 : PE := (46, [0, 1, 2, 3, 4], (37, (zt10 [qtN 33 0 5, qtN 34 0 39, qtN 35 1 40]), [((.negSucc 39), [(34, (.ofNat 1)), (35, (.ofNat 1))]), ((.ofNat 1), [(19, (.negSucc 0)), (20, (.negSucc 0)), (21, (.negSucc 0)), (22, (.negSucc 0))])], [qvR 0, qvS 33, qvS 34, qvS 35, qvK (.ofNat 0)], zh48, [(2, [1], []), (1, [1], []), (20, [1], [((.ofNat 692), []), ((.ofNat 0), []), (sL 34), (sL 35)]), (17, [1], [((.ofNat 692), []), (sL 12), (sL 36)]), (14, [], [(sL 36), (sL 34), (sL 35), ((.ofNat 0), [])])]), symsL 37 0, some ((.ofNat 17), []), 0, 0)
noncomputable def c150_1_p6 : PE := (46, [0, 1, 2, 3, 4, 5], (39, (zt10 [qtN 33 0 5, qtN 34 0 39, qtN 35 1 40, qtN 37 1 3, qtN 38 692 698]), [((.negSucc 39), [(34, (.ofNat 1)), (35, (.ofNat 1))]), ((.ofNat 1), [(19, (.negSucc 0)), (20, (.negSucc 0)), (21, (.negSucc 0)), (22, (.negSucc 0))])], [qvR 0, qvS 33, qvS 34, qvS 35, qvS 37, qvS 38], zh48, [(2, [1], []), (1, [1], []), (20, [1], [((.ofNat 692), []), (sL 37), (sL 34), (sL 35)]), (17, [1], [((.ofNat 692), []), (sL 12), (sL 36)]), (14, [], [(sL 36), (sL 34), (sL 35), ((.ofNat 0), [])])]), symsL 37 0, some ((.ofNat 17), [(37, (.negSucc 0))]), 0, 0)
noncomputable def c150_1_p7 : PE := (46, [0, 1, 2, 3, 4], (37, (zt11 [qtN 33 0 5, qtN 34 0 39, qtN 35 1 40]), [((.negSucc 39), [(34, (.ofNat 1)), (35, (.ofNat 1))]), ((.ofNat 1), [(19, (.negSucc 0)), (20, (.negSucc 0)), (21, (.negSucc 0)), (22, (.negSucc 0))])], [qvR 0, qvS 33, qvS 34, qvS 35, qvK (.ofNat 0)], zh48, [(2, [1], []), (1, [1], []), (20, [1], [((.ofNat 692), []), ((.ofNat 0), []), (sL 34), (sL 35)]), (17, [1], [((.ofNat 692), []), (sL 12), (sL 36)]), (14, [], [(sL 36), (sL 34), (sL 35), ((.ofNat 0), [])])]), symsL 37 0, some ((.ofNat 17), []), 0, 0)
noncomputable def c150_1_p8 : PE := (46, [0, 1, 2, 3, 4, 5], (39, (zt11 [qtN 33 0 5, qtN 34 0 39, qtN 35 1 40, qtN 37 1 4, qtN 38 692 910]), [((.negSucc 39), [(34, (.ofNat 1)), (35, (.ofNat 1))]), ((.ofNat 1), [(19, (.negSucc 0)), (20, (.negSucc 0)), (21, (.negSucc 0)), (22, (.negSucc 0))])], [qvR 0, qvS 33, qvS 34, qvS 35, qvS 37, qvS 38], zh48, [(2, [1], []), (1, [1], []), (20, [1], [((.ofNat 692), []), (sL 37), (sL 34), (sL 35)]), (17, [1], [((.ofNat 692), []), (sL 12), (sL 36)]), (14, [], [(sL 36), (sL 34), (sL 35), ((.ofNat 0), [])])]), symsL 37 0, some ((.ofNat 17), [(37, (.negSucc 0))]), 0, 0)
noncomputable def c150_1_p9 : PE := (46, [0, 1, 2, 3, 4], (37, (zt12 [qtN 33 0 5, qtN 34 0 39, qtN 35 1 40]), [((.negSucc 39), [(34, (.ofNat 1)), (35, (.ofNat 1))]), ((.ofNat 1), [(19, (.negSucc 0)), (20, (.negSucc 0)), (21, (.negSucc 0)), (22, (.negSucc 0))])], [qvR 0, qvS 33, qvS 34, qvS 35, qvK (.ofNat 0)], zh48, [(2, [1], []), (1, [1], []), (20, [1], [((.ofNat 692), []), ((.ofNat 0), []), (sL 34), (sL 35)]), (17, [1], [((.ofNat 692), []), (sL 12), (sL 36)]), (14, [], [(sL 36), (sL 34), (sL 35), ((.ofNat 0), [])])]), symsL 37 0, some ((.ofNat 17), []), 0, 0)
noncomputable def c150_1_p10 : PE := (46, [0, 1, 2, 3, 4, 5], (39, (zt12 [qtN 33 0 5, qtN 34 0 39, qtN 35 1 40, qtN 37 1 5, qtN 38 692 910]), [((.negSucc 39), [(34, (.ofNat 1)), (35, (.ofNat 1))]), ((.ofNat 1), [(19, (.negSucc 0)), (20, (.negSucc 0)), (21, (.negSucc 0)), (22, (.negSucc 0))])], [qvR 0, qvS 33, qvS 34, qvS 35, qvS 37, qvS 38], zh48, [(2, [1], []), (1, [1], []), (20, [1], [((.ofNat 692), []), (sL 37), (sL 34), (sL 35)]), (17, [1], [((.ofNat 692), []), (sL 12), (sL 36)]), (14, [], [(sL 36), (sL 34), (sL 35), ((.ofNat 0), [])])]), symsL 37 0, some ((.ofNat 17), [(37, (.negSucc 0))]), 0, 0)
noncomputable def c150_1_p11 : PE := (46, [0, 1, 2, 3, 4], (37, (zt13 [qtN 33 0 5, qtN 34 0 39, qtN 35 1 40]), [((.negSucc 39), [(34, (.ofNat 1)), (35, (.ofNat 1))]), ((.ofNat 1), [(19, (.negSucc 0)), (20, (.negSucc 0)), (21, (.negSucc 0)), (22, (.negSucc 0))])], [qvR 0, qvS 33, qvS 34, qvS 35, qvK (.ofNat 0)], zh48, [(2, [1], []), (1, [1], []), (20, [1], [((.ofNat 692), []), ((.ofNat 0), []), (sL 34), (sL 35)]), (17, [1], [((.ofNat 692), []), (sL 12), (sL 36)]), (14, [], [(sL 36), (sL 34), (sL 35), ((.ofNat 0), [])])]), symsL 37 0, some ((.ofNat 17), []), 0, 0)
noncomputable def c150_1_p12 : PE := (46, [0, 1, 2, 3, 4, 5], (39, (zt13 [qtN 33 0 5, qtN 34 0 39, qtN 35 1 40, qtN 37 1 6, qtN 38 692 910]), [((.negSucc 39), [(34, (.ofNat 1)), (35, (.ofNat 1))]), ((.ofNat 1), [(19, (.negSucc 0)), (20, (.negSucc 0)), (21, (.negSucc 0)), (22, (.negSucc 0))])], [qvR 0, qvS 33, qvS 34, qvS 35, qvS 37, qvS 38], zh48, [(2, [1], []), (1, [1], []), (20, [1], [((.ofNat 692), []), (sL 37), (sL 34), (sL 35)]), (17, [1], [((.ofNat 692), []), (sL 12), (sL 36)]), (14, [], [(sL 36), (sL 34), (sL 35), ((.ofNat 0), [])])]), symsL 37 0, some ((.ofNat 17), [(37, (.negSucc 0))]), 0, 0)
noncomputable def c150_1_p13 : PE := (46, [0, 1, 2, 3, 4], (37, (zt14 [qtN 33 0 5, qtN 34 0 39, qtN 35 1 40]), [((.negSucc 39), [(34, (.ofNat 1)), (35, (.ofNat 1))]), ((.ofNat 1), [(19, (.negSucc 0)), (20, (.negSucc 0)), (21, (.negSucc 0)), (22, (.negSucc 0))])], [qvR 0, qvS 33, qvS 34, qvS 35, qvK (.ofNat 0)], zh48, [(2, [1], []), (1, [1], []), (20, [1], [((.ofNat 692), []), ((.ofNat 0), []), (sL 34), (sL 35)]), (17, [1], [((.ofNat 692), []), (sL 12), (sL 36)]), (14, [], [(sL 36), (sL 34), (sL 35), ((.ofNat 0), [])])]), symsL 37 0, some ((.ofNat 17), []), 0, 0)
noncomputable def c150_1_p14 : PE := (46, [0, 1, 2, 3, 4, 5], (39, (zt14 [qtN 33 0 5, qtN 34 0 39, qtN 35 1 40, qtN 37 1 7, qtN 38 692 910]), [((.negSucc 39), [(34, (.ofNat 1)), (35, (.ofNat 1))]), ((.ofNat 1), [(19, (.negSucc 0)), (20, (.negSucc 0)), (21, (.negSucc 0)), (22, (.negSucc 0))])], [qvR 0, qvS 33, qvS 34, qvS 35, qvS 37, qvS 38], zh48, [(2, [1], []), (1, [1], []), (20, [1], [((.ofNat 692), []), (sL 37), (sL 34), (sL 35)]), (17, [1], [((.ofNat 692), []), (sL 12), (sL 36)]), (14, [], [(sL 36), (sL 34), (sL 35), ((.ofNat 0), [])])]), symsL 37 0, some ((.ofNat 17), [(37, (.negSucc 0))]), 0, 0)
noncomputable def c150_1_p15 : PE := (46, [0, 1, 2, 3, 4], (37, (zt15 [qtN 33 0 5, qtN 34 0 39, qtN 35 1 40]), [((.negSucc 39), [(34, (.ofNat 1)), (35, (.ofNat 1))]), ((.ofNat 1), [(19, (.negSucc 0)), (20, (.negSucc 0)), (21, (.negSucc 0)), (22, (.negSucc 0))])], [qvR 0, qvS 33, qvS 34, qvS 35, qvK (.ofNat 0)], zh48, [(2, [1], []), (1, [1], []), (20, [1], [((.ofNat 692), []), ((.ofNat 0), []), (sL 34), (sL 35)]), (17, [1], [((.ofNat 692), []), (sL 12), (sL 36)]), (14, [], [(sL 36), (sL 34), (sL 35), ((.ofNat 0), [])])]), symsL 37 0, some ((.ofNat 17), []), 0, 0)
noncomputable def c150_1_p16 : PE := (46, [0, 1, 2, 3, 4, 5], (39, (zt15 [qtN 33 0 5, qtN 34 0 39, qtN 35 1 40, qtN 37 1 8, qtN 38 692 910]), [((.negSucc 39), [(34, (.ofNat 1)), (35, (.ofNat 1))]), ((.ofNat 1), [(19, (.negSucc 0)), (20, (.negSucc 0)), (21, (.negSucc 0)), (22, (.negSucc 0))])], [qvR 0, qvS 33, qvS 34, qvS 35, qvS 37, qvS 38], zh48, [(2, [1], []), (1, [1], []), (20, [1], [((.ofNat 692), []), (sL 37), (sL 34), (sL 35)]), (17, [1], [((.ofNat 692), []), (sL 12), (sL 36)]), (14, [], [(sL 36), (sL 34), (sL 35), ((.ofNat 0), [])])]), symsL 37 0, some ((.ofNat 17), [(37, (.negSucc 0))]), 0, 0)
noncomputable def c150_1_pts : List PE := [c150_1_p0, c150_1_p1, c150_1_p2, c150_1_p3, c150_1_p4, c150_1_p5, c150_1_p6, c150_1_p7, c150_1_p8, c150_1_p9, c150_1_p10, c150_1_p11, c150_1_p12, c150_1_p13, c150_1_p14, c150_1_p15, c150_1_p16]
set_option maxRecDepth 100000 in
theorem c150_1_k : enCtF c150_1 c150_1_e (pkP (c150_1_pts ++ []) [0, 1, 3, 5, 7, 9, 11, 13, 15]) (some (12, 0, 9)) ((hOr (atPc 32 (fN20 0 692 2 3)) (hOr (atPc 67 (fEl 1 0 5)) (hOr (atPc 68 (fEl 2 0 5)) (hOr (atPc 108 fOv) (hOr (atPc 40 fRm) (hOr (atPc 105 fRm) (hOr (atPc 114 fRm) (hOr (hSplit 142 504 ) (hOr (atPc 143 fCn2) (hOr (atPc 151 (fExp 1 0 4)) (hOr (atPc 161 (fExp 2 0 4)) (atPc 170 fXr)))))))))))), noM, 70368744177664, 1499503551122450726028980918096117285255439359934464, 37) 3000 = true := by decide +kernel
set_option maxRecDepth 100000 in
theorem c150_1_k0 : ptCtF c150_1 c150_1_e (pkP (c150_1_pts ++ []) []) ((hOr (atPc 32 (fN20 0 692 2 3)) (hOr (atPc 67 (fEl 1 0 5)) (hOr (atPc 68 (fEl 2 0 5)) (hOr (atPc 108 fOv) (hOr (atPc 40 fRm) (hOr (atPc 105 fRm) (hOr (atPc 114 fRm) (hOr (hSplit 142 504 ) (hOr (atPc 143 fCn2) (hOr (atPc 151 (fExp 1 0 4)) (hOr (atPc 161 (fExp 2 0 4)) (atPc 170 fXr)))))))))))), noM, 70368744177664, 1499503551122450726028980918096117285255439359934464, 37) 3000 c150_1_p0 = true := by decide +kernel
set_option maxRecDepth 100000 in
theorem c150_1_k1 : ptCtF c150_1 c150_1_e (pkP (c150_1_pts ++ []) [2]) ((hOr (atPc 32 (fN20 0 692 2 3)) (hOr (atPc 67 (fEl 1 0 5)) (hOr (atPc 68 (fEl 2 0 5)) (hOr (atPc 108 fOv) (hOr (atPc 40 fRm) (hOr (atPc 105 fRm) (hOr (atPc 114 fRm) (hOr (hSplit 142 504 ) (hOr (atPc 143 fCn2) (hOr (atPc 151 (fExp 1 0 4)) (hOr (atPc 161 (fExp 2 0 4)) (atPc 170 fXr)))))))))))), noM, 70368744177664, 1499503551122450726028980918096117285255439359934464, 37) 3000 c150_1_p1 = true := by decide +kernel
set_option maxRecDepth 100000 in
theorem c150_1_k2 : ptCtF c150_1 c150_1_e (pkP (c150_1_pts ++ []) []) ((hOr (atPc 32 (fN20 0 692 2 3)) (hOr (atPc 67 (fEl 1 0 5)) (hOr (atPc 68 (fEl 2 0 5)) (hOr (atPc 108 fOv) (hOr (atPc 40 fRm) (hOr (atPc 105 fRm) (hOr (atPc 114 fRm) (hOr (hSplit 142 504 ) (hOr (atPc 143 fCn2) (hOr (atPc 151 (fExp 1 0 4)) (hOr (atPc 161 (fExp 2 0 4)) (atPc 170 fXr)))))))))))), noM, 70368744177664, 1499503551122450726028980918096117285255439359934464, 37) 3000 c150_1_p2 = true := by decide +kernel
set_option maxRecDepth 100000 in
theorem c150_1_k3 : ptCtF c150_1 c150_1_e (pkP (c150_1_pts ++ []) [4]) ((hOr (atPc 32 (fN20 0 692 2 3)) (hOr (atPc 67 (fEl 1 0 5)) (hOr (atPc 68 (fEl 2 0 5)) (hOr (atPc 108 fOv) (hOr (atPc 40 fRm) (hOr (atPc 105 fRm) (hOr (atPc 114 fRm) (hOr (hSplit 142 504 ) (hOr (atPc 143 fCn2) (hOr (atPc 151 (fExp 1 0 4)) (hOr (atPc 161 (fExp 2 0 4)) (atPc 170 fXr)))))))))))), noM, 70368744177664, 1499503551122450726028980918096117285255439359934464, 37) 3000 c150_1_p3 = true := by decide +kernel
set_option maxRecDepth 100000 in
theorem c150_1_k4 : ptCtF c150_1 c150_1_e (pkP (c150_1_pts ++ []) [4]) ((hOr (atPc 32 (fN20 0 692 2 3)) (hOr (atPc 67 (fEl 1 0 5)) (hOr (atPc 68 (fEl 2 0 5)) (hOr (atPc 108 fOv) (hOr (atPc 40 fRm) (hOr (atPc 105 fRm) (hOr (atPc 114 fRm) (hOr (hSplit 142 504 ) (hOr (atPc 143 fCn2) (hOr (atPc 151 (fExp 1 0 4)) (hOr (atPc 161 (fExp 2 0 4)) (atPc 170 fXr)))))))))))), noM, 70368744177664, 1499503551122450726028980918096117285255439359934464, 37) 3000 c150_1_p4 = true := by decide +kernel
set_option maxRecDepth 100000 in
theorem c150_1_k5 : ptCtF c150_1 c150_1_e (pkP (c150_1_pts ++ []) [6]) ((hOr (atPc 32 (fN20 0 692 2 3)) (hOr (atPc 67 (fEl 1 0 5)) (hOr (atPc 68 (fEl 2 0 5)) (hOr (atPc 108 fOv) (hOr (atPc 40 fRm) (hOr (atPc 105 fRm) (hOr (atPc 114 fRm) (hOr (hSplit 142 504 ) (hOr (atPc 143 fCn2) (hOr (atPc 151 (fExp 1 0 4)) (hOr (atPc 161 (fExp 2 0 4)) (atPc 170 fXr)))))))))))), noM, 70368744177664, 1499503551122450726028980918096117285255439359934464, 37) 3000 c150_1_p5 = true := by decide +kernel
set_option maxRecDepth 100000 in
theorem c150_1_k6 : ptCtF c150_1 c150_1_e (pkP (c150_1_pts ++ []) [6]) ((hOr (atPc 32 (fN20 0 692 2 3)) (hOr (atPc 67 (fEl 1 0 5)) (hOr (atPc 68 (fEl 2 0 5)) (hOr (atPc 108 fOv) (hOr (atPc 40 fRm) (hOr (atPc 105 fRm) (hOr (atPc 114 fRm) (hOr (hSplit 142 504 ) (hOr (atPc 143 fCn2) (hOr (atPc 151 (fExp 1 0 4)) (hOr (atPc 161 (fExp 2 0 4)) (atPc 170 fXr)))))))))))), noM, 70368744177664, 1499503551122450726028980918096117285255439359934464, 37) 3000 c150_1_p6 = true := by decide +kernel
set_option maxRecDepth 100000 in
theorem c150_1_k7 : ptCtF c150_1 c150_1_e (pkP (c150_1_pts ++ []) [8]) ((hOr (atPc 32 (fN20 0 692 2 3)) (hOr (atPc 67 (fEl 1 0 5)) (hOr (atPc 68 (fEl 2 0 5)) (hOr (atPc 108 fOv) (hOr (atPc 40 fRm) (hOr (atPc 105 fRm) (hOr (atPc 114 fRm) (hOr (hSplit 142 504 ) (hOr (atPc 143 fCn2) (hOr (atPc 151 (fExp 1 0 4)) (hOr (atPc 161 (fExp 2 0 4)) (atPc 170 fXr)))))))))))), noM, 70368744177664, 1499503551122450726028980918096117285255439359934464, 37) 3000 c150_1_p7 = true := by decide +kernel
set_option maxRecDepth 100000 in
theorem c150_1_k8 : ptCtF c150_1 c150_1_e (pkP (c150_1_pts ++ []) [8]) ((hOr (atPc 32 (fN20 0 692 2 3)) (hOr (atPc 67 (fEl 1 0 5)) (hOr (atPc 68 (fEl 2 0 5)) (hOr (atPc 108 fOv) (hOr (atPc 40 fRm) (hOr (atPc 105 fRm) (hOr (atPc 114 fRm) (hOr (hSplit 142 504 ) (hOr (atPc 143 fCn2) (hOr (atPc 151 (fExp 1 0 4)) (hOr (atPc 161 (fExp 2 0 4)) (atPc 170 fXr)))))))))))), noM, 70368744177664, 1499503551122450726028980918096117285255439359934464, 37) 3000 c150_1_p8 = true := by decide +kernel
set_option maxRecDepth 100000 in
theorem c150_1_k9 : ptCtF c150_1 c150_1_e (pkP (c150_1_pts ++ []) [10]) ((hOr (atPc 32 (fN20 0 692 2 3)) (hOr (atPc 67 (fEl 1 0 5)) (hOr (atPc 68 (fEl 2 0 5)) (hOr (atPc 108 fOv) (hOr (atPc 40 fRm) (hOr (atPc 105 fRm) (hOr (atPc 114 fRm) (hOr (hSplit 142 504 ) (hOr (atPc 143 fCn2) (hOr (atPc 151 (fExp 1 0 4)) (hOr (atPc 161 (fExp 2 0 4)) (atPc 170 fXr)))))))))))), noM, 70368744177664, 1499503551122450726028980918096117285255439359934464, 37) 3000 c150_1_p9 = true := by decide +kernel
set_option maxRecDepth 100000 in
theorem c150_1_k10 : ptCtF c150_1 c150_1_e (pkP (c150_1_pts ++ []) [10]) ((hOr (atPc 32 (fN20 0 692 2 3)) (hOr (atPc 67 (fEl 1 0 5)) (hOr (atPc 68 (fEl 2 0 5)) (hOr (atPc 108 fOv) (hOr (atPc 40 fRm) (hOr (atPc 105 fRm) (hOr (atPc 114 fRm) (hOr (hSplit 142 504 ) (hOr (atPc 143 fCn2) (hOr (atPc 151 (fExp 1 0 4)) (hOr (atPc 161 (fExp 2 0 4)) (atPc 170 fXr)))))))))))), noM, 70368744177664, 1499503551122450726028980918096117285255439359934464, 37) 3000 c150_1_p10 = true := by decide +kernel
set_option maxRecDepth 100000 in
theorem c150_1_k11 : ptCtF c150_1 c150_1_e (pkP (c150_1_pts ++ []) [12]) ((hOr (atPc 32 (fN20 0 692 2 3)) (hOr (atPc 67 (fEl 1 0 5)) (hOr (atPc 68 (fEl 2 0 5)) (hOr (atPc 108 fOv) (hOr (atPc 40 fRm) (hOr (atPc 105 fRm) (hOr (atPc 114 fRm) (hOr (hSplit 142 504 ) (hOr (atPc 143 fCn2) (hOr (atPc 151 (fExp 1 0 4)) (hOr (atPc 161 (fExp 2 0 4)) (atPc 170 fXr)))))))))))), noM, 70368744177664, 1499503551122450726028980918096117285255439359934464, 37) 3000 c150_1_p11 = true := by decide +kernel
set_option maxRecDepth 100000 in
theorem c150_1_k12 : ptCtF c150_1 c150_1_e (pkP (c150_1_pts ++ []) [12]) ((hOr (atPc 32 (fN20 0 692 2 3)) (hOr (atPc 67 (fEl 1 0 5)) (hOr (atPc 68 (fEl 2 0 5)) (hOr (atPc 108 fOv) (hOr (atPc 40 fRm) (hOr (atPc 105 fRm) (hOr (atPc 114 fRm) (hOr (hSplit 142 504 ) (hOr (atPc 143 fCn2) (hOr (atPc 151 (fExp 1 0 4)) (hOr (atPc 161 (fExp 2 0 4)) (atPc 170 fXr)))))))))))), noM, 70368744177664, 1499503551122450726028980918096117285255439359934464, 37) 3000 c150_1_p12 = true := by decide +kernel
set_option maxRecDepth 100000 in
theorem c150_1_k13 : ptCtF c150_1 c150_1_e (pkP (c150_1_pts ++ []) [14]) ((hOr (atPc 32 (fN20 0 692 2 3)) (hOr (atPc 67 (fEl 1 0 5)) (hOr (atPc 68 (fEl 2 0 5)) (hOr (atPc 108 fOv) (hOr (atPc 40 fRm) (hOr (atPc 105 fRm) (hOr (atPc 114 fRm) (hOr (hSplit 142 504 ) (hOr (atPc 143 fCn2) (hOr (atPc 151 (fExp 1 0 4)) (hOr (atPc 161 (fExp 2 0 4)) (atPc 170 fXr)))))))))))), noM, 70368744177664, 1499503551122450726028980918096117285255439359934464, 37) 3000 c150_1_p13 = true := by decide +kernel
set_option maxRecDepth 100000 in
theorem c150_1_k14 : ptCtF c150_1 c150_1_e (pkP (c150_1_pts ++ []) [14]) ((hOr (atPc 32 (fN20 0 692 2 3)) (hOr (atPc 67 (fEl 1 0 5)) (hOr (atPc 68 (fEl 2 0 5)) (hOr (atPc 108 fOv) (hOr (atPc 40 fRm) (hOr (atPc 105 fRm) (hOr (atPc 114 fRm) (hOr (hSplit 142 504 ) (hOr (atPc 143 fCn2) (hOr (atPc 151 (fExp 1 0 4)) (hOr (atPc 161 (fExp 2 0 4)) (atPc 170 fXr)))))))))))), noM, 70368744177664, 1499503551122450726028980918096117285255439359934464, 37) 3000 c150_1_p14 = true := by decide +kernel
set_option maxRecDepth 100000 in
theorem c150_1_k15 : ptCtF c150_1 c150_1_e (pkP (c150_1_pts ++ []) [16]) ((hOr (atPc 32 (fN20 0 692 2 3)) (hOr (atPc 67 (fEl 1 0 5)) (hOr (atPc 68 (fEl 2 0 5)) (hOr (atPc 108 fOv) (hOr (atPc 40 fRm) (hOr (atPc 105 fRm) (hOr (atPc 114 fRm) (hOr (hSplit 142 504 ) (hOr (atPc 143 fCn2) (hOr (atPc 151 (fExp 1 0 4)) (hOr (atPc 161 (fExp 2 0 4)) (atPc 170 fXr)))))))))))), noM, 70368744177664, 1499503551122450726028980918096117285255439359934464, 37) 3000 c150_1_p15 = true := by decide +kernel
set_option maxRecDepth 100000 in
theorem c150_1_k16 : ptCtF c150_1 c150_1_e (pkP (c150_1_pts ++ []) [16]) ((hOr (atPc 32 (fN20 0 692 2 3)) (hOr (atPc 67 (fEl 1 0 5)) (hOr (atPc 68 (fEl 2 0 5)) (hOr (atPc 108 fOv) (hOr (atPc 40 fRm) (hOr (atPc 105 fRm) (hOr (atPc 114 fRm) (hOr (hSplit 142 504 ) (hOr (atPc 143 fCn2) (hOr (atPc 151 (fExp 1 0 4)) (hOr (atPc 161 (fExp 2 0 4)) (atPc 170 fXr)))))))))))), noM, 70368744177664, 1499503551122450726028980918096117285255439359934464, 37) 3000 c150_1_p16 = true := by decide +kernel
set_option maxRecDepth 100000 in
theorem c150_1_v : ValidC PPk c150_1 := ct_ok fpk ⟨(hOr_ok (atPc_ok (fN20_ok 0 692 2 3)) (hOr_ok (atPc_ok (fEl_ok 1 0 5)) (hOr_ok (atPc_ok (fEl_ok 2 0 5)) (hOr_ok (atPc_ok fOv_ok) (hOr_ok (atPc_ok fRm_ok) (hOr_ok (atPc_ok fRm_ok) (hOr_ok (atPc_ok fRm_ok) (hOr_ok (hSplit_ok 142 504 ) (hOr_ok (atPc_ok fCn2_ok) (hOr_ok (atPc_ok (fExp_ok 1 0 4)) (hOr_ok (atPc_ok (fExp_ok 2 0 4)) (atPc_ok fXr_ok)))))))))))), noM_ok⟩ (d := 1) (ext := []) (pts := c150_1_pts) (env := c150_1_e) rfl (List.forall_mem_cons.mpr ⟨⟨c145_0_v, Nat.le_of_ble_eq_true rfl⟩, fun _ h => (by cases h)⟩) ext_nil (fun q h => (by cases h; exact Nat.le_of_ble_eq_true rfl)) (enF c150_1_k) (List.forall_mem_cons.mpr ⟨⟨_, ptF c150_1_k0⟩, List.forall_mem_cons.mpr ⟨⟨_, ptF c150_1_k1⟩, List.forall_mem_cons.mpr ⟨⟨_, ptF c150_1_k2⟩, List.forall_mem_cons.mpr ⟨⟨_, ptF c150_1_k3⟩, List.forall_mem_cons.mpr ⟨⟨_, ptF c150_1_k4⟩, List.forall_mem_cons.mpr ⟨⟨_, ptF c150_1_k5⟩, List.forall_mem_cons.mpr ⟨⟨_, ptF c150_1_k6⟩, List.forall_mem_cons.mpr ⟨⟨_, ptF c150_1_k7⟩, List.forall_mem_cons.mpr ⟨⟨_, ptF c150_1_k8⟩, List.forall_mem_cons.mpr ⟨⟨_, ptF c150_1_k9⟩, List.forall_mem_cons.mpr ⟨⟨_, ptF c150_1_k10⟩, List.forall_mem_cons.mpr ⟨⟨_, ptF c150_1_k11⟩, List.forall_mem_cons.mpr ⟨⟨_, ptF c150_1_k12⟩, List.forall_mem_cons.mpr ⟨⟨_, ptF c150_1_k13⟩, List.forall_mem_cons.mpr ⟨⟨_, ptF c150_1_k14⟩, List.forall_mem_cons.mpr ⟨⟨_, ptF c150_1_k15⟩, List.forall_mem_cons.mpr ⟨⟨_, ptF c150_1_k16⟩, fun _ h => (by cases h)⟩⟩⟩⟩⟩⟩⟩⟩⟩⟩⟩⟩⟩⟩⟩⟩⟩)

noncomputable def c150_2 : Ct := (150, 2, (38, (zt2 [qtA 33, qtA 34, qtA 35]), [((.ofNat 1), [(19, (.negSucc 0)), (20, (.negSucc 0)), (21, (.negSucc 0)), (22, (.negSucc 0))])], [qvR 0, qvS 33, qvS 34, qvS 35], zh48, [(2, [1], []), (1, [1], []), (17, [1], [((.ofNat 692), []), (sL 12), (sL 36)]), (14, [], [(sL 36), (sL 34), (sL 35), ((.ofNat 1), [])]), (15, [], [(sL 36), (sL 34), (sL 35), (sL 37)])]),
  [((38, [qtN 12 0 0, (33, (.negSucc 2147483647), (.negSucc 0))], [], [qvK (.negSucc 1)], zh48, [(2, [1], []), (1, [1], []), (17, [1], [((.ofNat 692), []), (sL 12), (sL 36)]), (14, [], [(sL 36), (sL 34), (sL 35), ((.ofNat 1), [])]), (15, [], [(sL 36), (sL 34), (sL 35), (sL 37)])]), 0, 0),
   ((38, [qtN 12 0 0, qtN 33 6 2147483647], [], [qvK (.negSucc 1)], zh48, [(2, [1], []), (1, [1], []), (17, [1], [((.ofNat 692), []), (sL 12), (sL 36)]), (14, [], [(sL 36), (sL 34), (sL 35), ((.ofNat 1), [])]), (15, [], [(sL 36), (sL 34), (sL 35), (sL 37)])]), 0, 0),
   ((38, [qtN 12 0 0, qtN 33 0 5, (34, (.negSucc 2147483647), (.negSucc 0))], [], [qvK (.negSucc 1)], zh48, [(2, [1], []), (1, [1], []), (17, [1], [((.ofNat 692), []), (sL 12), (sL 36)]), (14, [], [(sL 36), (sL 34), (sL 35), ((.ofNat 1), [])]), (15, [], [(sL 36), (sL 34), (sL 35), (sL 37)])]), 0, 0),
   ((38, [qtN 12 0 0, qtN 33 0 5, qtN 34 40 2147483647], [], [qvK (.negSucc 1)], zh48, [(2, [1], []), (1, [1], []), (17, [1], [((.ofNat 692), []), (sL 12), (sL 36)]), (14, [], [(sL 36), (sL 34), (sL 35), ((.ofNat 1), [])]), (15, [], [(sL 36), (sL 34), (sL 35), (sL 37)])]), 0, 0),
   ((38, [qtN 12 0 0, qtN 33 0 5, qtN 34 0 39, (35, (.negSucc 2147483647), (.ofNat 0))], [], [qvK (.negSucc 1)], zh48, [(2, [1], []), (1, [1], []), (17, [1], [((.ofNat 692), []), (sL 12), (sL 36)]), (14, [], [(sL 36), (sL 34), (sL 35), ((.ofNat 1), [])]), (15, [], [(sL 36), (sL 34), (sL 35), (sL 37)])]), 0, 0),
   ((38, [qtN 12 0 0, qtN 33 0 5, qtN 34 0 39, qtN 35 41 2147483647], [], [qvK (.negSucc 1)], zh48, [(2, [1], []), (1, [1], []), (17, [1], [((.ofNat 692), []), (sL 12), (sL 36)]), (14, [], [(sL 36), (sL 34), (sL 35), ((.ofNat 1), [])]), (15, [], [(sL 36), (sL 34), (sL 35), (sL 37)])]), 0, 0),
   ((38, [qtN 12 1 1, (33, (.negSucc 2147483647), (.negSucc 0))], [], [qvK (.negSucc 1)], zh48, [(2, [1], []), (1, [1], []), (17, [1], [((.ofNat 692), []), (sL 12), (sL 36)]), (14, [], [(sL 36), (sL 34), (sL 35), ((.ofNat 1), [])]), (15, [], [(sL 36), (sL 34), (sL 35), (sL 37)])]), 0, 0),
   ((38, [qtN 12 1 1, qtN 33 6 2147483647], [], [qvK (.negSucc 1)], zh48, [(2, [1], []), (1, [1], []), (17, [1], [((.ofNat 692), []), (sL 12), (sL 36)]), (14, [], [(sL 36), (sL 34), (sL 35), ((.ofNat 1), [])]), (15, [], [(sL 36), (sL 34), (sL 35), (sL 37)])]), 0, 0),
   ((38, [qtN 12 1 1, qtN 33 0 5, (34, (.negSucc 2147483647), (.negSucc 0))], [], [qvK (.negSucc 1)], zh48, [(2, [1], []), (1, [1], []), (17, [1], [((.ofNat 692), []), (sL 12), (sL 36)]), (14, [], [(sL 36), (sL 34), (sL 35), ((.ofNat 1), [])]), (15, [], [(sL 36), (sL 34), (sL 35), (sL 37)])]), 0, 0),
   ((38, [qtN 12 1 1, qtN 33 0 5, qtN 34 40 2147483647], [], [qvK (.negSucc 1)], zh48, [(2, [1], []), (1, [1], []), (17, [1], [((.ofNat 692), []), (sL 12), (sL 36)]), (14, [], [(sL 36), (sL 34), (sL 35), ((.ofNat 1), [])]), (15, [], [(sL 36), (sL 34), (sL 35), (sL 37)])]), 0, 0),
   ((38, [qtN 12 1 1, qtN 33 0 5, qtN 34 0 39, (35, (.negSucc 2147483647), (.ofNat 0))], [], [qvK (.negSucc 1)], zh48, [(2, [1], []), (1, [1], []), (17, [1], [((.ofNat 692), []), (sL 12), (sL 36)]), (14, [], [(sL 36), (sL 34), (sL 35), ((.ofNat 1), [])]), (15, [], [(sL 36), (sL 34), (sL 35), (sL 37)])]), 0, 0),
   ((38, [qtN 12 1 1, qtN 33 0 5, qtN 34 0 39, qtN 35 41 2147483647], [], [qvK (.negSucc 1)], zh48, [(2, [1], []), (1, [1], []), (17, [1], [((.ofNat 692), []), (sL 12), (sL 36)]), (14, [], [(sL 36), (sL 34), (sL 35), ((.ofNat 1), [])]), (15, [], [(sL 36), (sL 34), (sL 35), (sL 37)])]), 0, 0),
   ((38, [qtN 12 2 2, (33, (.negSucc 2147483647), (.negSucc 0))], [], [qvK (.negSucc 1)], zh48, [(2, [1], []), (1, [1], []), (17, [1], [((.ofNat 692), []), (sL 12), (sL 36)]), (14, [], [(sL 36), (sL 34), (sL 35), ((.ofNat 1), [])]), (15, [], [(sL 36), (sL 34), (sL 35), (sL 37)])]), 0, 0),
   ((38, [qtN 12 2 2, qtN 33 6 2147483647], [], [qvK (.negSucc 1)], zh48, [(2, [1], []), (1, [1], []), (17, [1], [((.ofNat 692), []), (sL 12), (sL 36)]), (14, [], [(sL 36), (sL 34), (sL 35), ((.ofNat 1), [])]), (15, [], [(sL 36), (sL 34), (sL 35), (sL 37)])]), 0, 0),
   ((38, [qtN 12 2 2, qtN 33 0 5, (34, (.negSucc 2147483647), (.negSucc 0))], [], [qvK (.negSucc 1)], zh48, [(2, [1], []), (1, [1], []), (17, [1], [((.ofNat 692), []), (sL 12), (sL 36)]), (14, [], [(sL 36), (sL 34), (sL 35), ((.ofNat 1), [])]), (15, [], [(sL 36), (sL 34), (sL 35), (sL 37)])]), 0, 0),
   ((38, [qtN 12 2 2, qtN 33 0 5, qtN 34 40 2147483647], [], [qvK (.negSucc 1)], zh48, [(2, [1], []), (1, [1], []), (17, [1], [((.ofNat 692), []), (sL 12), (sL 36)]), (14, [], [(sL 36), (sL 34), (sL 35), ((.ofNat 1), [])]), (15, [], [(sL 36), (sL 34), (sL 35), (sL 37)])]), 0, 0),
   ((38, [qtN 12 2 2, qtN 33 0 5, qtN 34 0 39, (35, (.negSucc 2147483647), (.ofNat 0))], [], [qvK (.negSucc 1)], zh48, [(2, [1], []), (1, [1], []), (17, [1], [((.ofNat 692), []), (sL 12), (sL 36)]), (14, [], [(sL 36), (sL 34), (sL 35), ((.ofNat 1), [])]), (15, [], [(sL 36), (sL 34), (sL 35), (sL 37)])]), 0, 0),
   ((38, [qtN 12 2 2, qtN 33 0 5, qtN 34 0 39, qtN 35 41 2147483647], [], [qvK (.negSucc 1)], zh48, [(2, [1], []), (1, [1], []), (17, [1], [((.ofNat 692), []), (sL 12), (sL 36)]), (14, [], [(sL 36), (sL 34), (sL 35), ((.ofNat 1), [])]), (15, [], [(sL 36), (sL 34), (sL 35), (sL 37)])]), 0, 0),
   ((38, [qtN 12 3 3, (33, (.negSucc 2147483647), (.negSucc 0))], [], [qvK (.negSucc 1)], zh48, [(2, [1], []), (1, [1], []), (17, [1], [((.ofNat 692), []), (sL 12), (sL 36)]), (14, [], [(sL 36), (sL 34), (sL 35), ((.ofNat 1), [])]), (15, [], [(sL 36), (sL 34), (sL 35), (sL 37)])]), 0, 0),
   ((38, [qtN 12 3 3, qtN 33 6 2147483647], [], [qvK (.negSucc 1)], zh48, [(2, [1], []), (1, [1], []), (17, [1], [((.ofNat 692), []), (sL 12), (sL 36)]), (14, [], [(sL 36), (sL 34), (sL 35), ((.ofNat 1), [])]), (15, [], [(sL 36), (sL 34), (sL 35), (sL 37)])]), 0, 0),
   ((38, [qtN 12 3 3, qtN 33 0 5, (34, (.negSucc 2147483647), (.negSucc 0))], [], [qvK (.negSucc 1)], zh48, [(2, [1], []), (1, [1], []), (17, [1], [((.ofNat 692), []), (sL 12), (sL 36)]), (14, [], [(sL 36), (sL 34), (sL 35), ((.ofNat 1), [])]), (15, [], [(sL 36), (sL 34), (sL 35), (sL 37)])]), 0, 0),
   ((38, [qtN 12 3 3, qtN 33 0 5, qtN 34 40 2147483647], [], [qvK (.negSucc 1)], zh48, [(2, [1], []), (1, [1], []), (17, [1], [((.ofNat 692), []), (sL 12), (sL 36)]), (14, [], [(sL 36), (sL 34), (sL 35), ((.ofNat 1), [])]), (15, [], [(sL 36), (sL 34), (sL 35), (sL 37)])]), 0, 0),
   ((38, [qtN 12 3 3, qtN 33 0 5, qtN 34 0 39, (35, (.negSucc 2147483647), (.ofNat 0))], [], [qvK (.negSucc 1)], zh48, [(2, [1], []), (1, [1], []), (17, [1], [((.ofNat 692), []), (sL 12), (sL 36)]), (14, [], [(sL 36), (sL 34), (sL 35), ((.ofNat 1), [])]), (15, [], [(sL 36), (sL 34), (sL 35), (sL 37)])]), 0, 0),
   ((38, [qtN 12 3 3, qtN 33 0 5, qtN 34 0 39, qtN 35 41 2147483647], [], [qvK (.negSucc 1)], zh48, [(2, [1], []), (1, [1], []), (17, [1], [((.ofNat 692), []), (sL 12), (sL 36)]), (14, [], [(sL 36), (sL 34), (sL 35), ((.ofNat 1), [])]), (15, [], [(sL 36), (sL 34), (sL 35), (sL 37)])]), 0, 0),
   ((38, [qtN 12 4 4, (33, (.negSucc 2147483647), (.negSucc 0))], [], [qvK (.negSucc 1)], zh48, [(2, [1], []), (1, [1], []), (17, [1], [((.ofNat 692), []), (sL 12), (sL 36)]), (14, [], [(sL 36), (sL 34), (sL 35), ((.ofNat 1), [])]), (15, [], [(sL 36), (sL 34), (sL 35), (sL 37)])]), 0, 0),
   ((38, [qtN 12 4 4, qtN 33 6 2147483647], [], [qvK (.negSucc 1)], zh48, [(2, [1], []), (1, [1], []), (17, [1], [((.ofNat 692), []), (sL 12), (sL 36)]), (14, [], [(sL 36), (sL 34), (sL 35), ((.ofNat 1), [])]), (15, [], [(sL 36), (sL 34), (sL 35), (sL 37)])]), 0, 0),
   ((38, [qtN 12 4 4, qtN 33 0 5, (34, (.negSucc 2147483647), (.negSucc 0))], [], [qvK (.negSucc 1)], zh48, [(2, [1], []), (1, [1], []), (17, [1], [((.ofNat 692), []), (sL 12), (sL 36)]), (14, [], [(sL 36), (sL 34), (sL 35), ((.ofNat 1), [])]), (15, [], [(sL 36), (sL 34), (sL 35), (sL 37)])]), 0, 0),
   ((38, [qtN 12 4 4, qtN 33 0 5, qtN 34 40 2147483647], [], [qvK (.negSucc 1)], zh48, [(2, [1], []), (1, [1], []), (17, [1], [((.ofNat 692), []), (sL 12), (sL 36)]), (14, [], [(sL 36), (sL 34), (sL 35), ((.ofNat 1), [])]), (15, [], [(sL 36), (sL 34), (sL 35), (sL 37)])]), 0, 0),
   ((38, [qtN 12 4 4, qtN 33 0 5, qtN 34 0 39, (35, (.negSucc 2147483647), (.ofNat 0))], [], [qvK (.negSucc 1)], zh48, [(2, [1], []), (1, [1], []), (17, [1], [((.ofNat 692), []), (sL 12), (sL 36)]), (14, [], [(sL 36), (sL 34), (sL 35), ((.ofNat 1), [])]), (15, [], [(sL 36), (sL 34), (sL 35), (sL 37)])]), 0, 0),
   ((38, [qtN 12 4 4, qtN 33 0 5, qtN 34 0 39, qtN 35 41 2147483647], [], [qvK (.negSucc 1)], zh48, [(2, [1], []), (1, [1], []), (17, [1], [((.ofNat 692), []), (sL 12), (sL 36)]), (14, [], [(sL 36), (sL 34), (sL 35), ((.ofNat 1), [])]), (15, [], [(sL 36), (sL 34), (sL 35), (sL 37)])]), 0, 0),
   ((38, [qtN 12 5 5, (33, (.negSucc 2147483647), (.negSucc 0))], [], [qvK (.negSucc 1)], zh48, [(2, [1], []), (1, [1], []), (17, [1], [((.ofNat 692), []), (sL 12), (sL 36)]), (14, [], [(sL 36), (sL 34), (sL 35), ((.ofNat 1), [])]), (15, [], [(sL 36), (sL 34), (sL 35), (sL 37)])]), 0, 0),
   ((38, [qtN 12 5 5, qtN 33 6 2147483647], [], [qvK (.negSucc 1)], zh48, [(2, [1], []), (1, [1], []), (17, [1], [((.ofNat 692), []), (sL 12), (sL 36)]), (14, [], [(sL 36), (sL 34), (sL 35), ((.ofNat 1), [])]), (15, [], [(sL 36), (sL 34), (sL 35), (sL 37)])]), 0, 0),
   ((38, [qtN 12 5 5, qtN 33 0 5, (34, (.negSucc 2147483647), (.negSucc 0))], [], [qvK (.negSucc 1)], zh48, [(2, [1], []), (1, [1], []), (17, [1], [((.ofNat 692), []), (sL 12), (sL 36)]), (14, [], [(sL 36), (sL 34), (sL 35), ((.ofNat 1), [])]), (15, [], [(sL 36), (sL 34), (sL 35), (sL 37)])]), 0, 0),
   ((38, [qtN 12 5 5, qtN 33 0 5, qtN 34 40 2147483647], [], [qvK (.negSucc 1)], zh48, [(2, [1], []), (1, [1], []), (17, [1], [((.ofNat 692), []), (sL 12), (sL 36)]), (14, [], [(sL 36), (sL 34), (sL 35), ((.ofNat 1), [])]), (15, [], [(sL 36), (sL 34), (sL 35), (sL 37)])]), 0, 0),
   ((38, [qtN 12 5 5, qtN 33 0 5, qtN 34 0 39, (35, (.negSucc 2147483647), (.ofNat 0))], [], [qvK (.negSucc 1)], zh48, [(2, [1], []), (1, [1], []), (17, [1], [((.ofNat 692), []), (sL 12), (sL 36)]), (14, [], [(sL 36), (sL 34), (sL 35), ((.ofNat 1), [])]), (15, [], [(sL 36), (sL 34), (sL 35), (sL 37)])]), 0, 0),
   ((38, [qtN 12 5 5, qtN 33 0 5, qtN 34 0 39, qtN 35 41 2147483647], [], [qvK (.negSucc 1)], zh48, [(2, [1], []), (1, [1], []), (17, [1], [((.ofNat 692), []), (sL 12), (sL 36)]), (14, [], [(sL 36), (sL 34), (sL 35), ((.ofNat 1), [])]), (15, [], [(sL 36), (sL 34), (sL 35), (sL 37)])]), 0, 0),
   ((38, [qtN 12 6 6, (33, (.negSucc 2147483647), (.negSucc 0))], [], [qvK (.negSucc 1)], zh48, [(2, [1], []), (1, [1], []), (17, [1], [((.ofNat 692), []), (sL 12), (sL 36)]), (14, [], [(sL 36), (sL 34), (sL 35), ((.ofNat 1), [])]), (15, [], [(sL 36), (sL 34), (sL 35), (sL 37)])]), 0, 0),
   ((38, [qtN 12 6 6, qtN 33 6 2147483647], [], [qvK (.negSucc 1)], zh48, [(2, [1], []), (1, [1], []), (17, [1], [((.ofNat 692), []), (sL 12), (sL 36)]), (14, [], [(sL 36), (sL 34), (sL 35), ((.ofNat 1), [])]), (15, [], [(sL 36), (sL 34), (sL 35), (sL 37)])]), 0, 0),
   ((38, [qtN 12 6 6, qtN 33 0 5, (34, (.negSucc 2147483647), (.negSucc 0))], [], [qvK (.negSucc 1)], zh48, [(2, [1], []), (1, [1], []), (17, [1], [((.ofNat 692), []), (sL 12), (sL 36)]), (14, [], [(sL 36), (sL 34), (sL 35), ((.ofNat 1), [])]), (15, [], [(sL 36), (sL 34), (sL 35), (sL 37)])]), 0, 0),
   ((38, [qtN 12 6 6, qtN 33 0 5, qtN 34 40 2147483647], [], [qvK (.negSucc 1)], zh48, [(2, [1], []), (1, [1], []), (17, [1], [((.ofNat 692), []), (sL 12), (sL 36)]), (14, [], [(sL 36), (sL 34), (sL 35), ((.ofNat 1), [])]), (15, [], [(sL 36), (sL 34), (sL 35), (sL 37)])]), 0, 0),
   ((38, [qtN 12 6 6, qtN 33 0 5, qtN 34 0 39, (35, (.negSucc 2147483647), (.ofNat 0))], [], [qvK (.negSucc 1)], zh48, [(2, [1], []), (1, [1], []), (17, [1], [((.ofNat 692), []), (sL 12), (sL 36)]), (14, [], [(sL 36), (sL 34), (sL 35), ((.ofNat 1), [])]), (15, [], [(sL 36), (sL 34), (sL 35), (sL 37)])]), 0, 0),
   ((38, [qtN 12 6 6, qtN 33 0 5, qtN 34 0 39, qtN 35 41 2147483647], [], [qvK (.negSucc 1)], zh48, [(2, [1], []), (1, [1], []), (17, [1], [((.ofNat 692), []), (sL 12), (sL 36)]), (14, [], [(sL 36), (sL 34), (sL 35), ((.ofNat 1), [])]), (15, [], [(sL 36), (sL 34), (sL 35), (sL 37)])]), 0, 0),
   ((38, [qtN 12 7 7, (33, (.negSucc 2147483647), (.negSucc 0))], [], [qvK (.negSucc 1)], zh48, [(2, [1], []), (1, [1], []), (17, [1], [((.ofNat 692), []), (sL 12), (sL 36)]), (14, [], [(sL 36), (sL 34), (sL 35), ((.ofNat 1), [])]), (15, [], [(sL 36), (sL 34), (sL 35), (sL 37)])]), 0, 0),
   ((38, [qtN 12 7 7, qtN 33 6 2147483647], [], [qvK (.negSucc 1)], zh48, [(2, [1], []), (1, [1], []), (17, [1], [((.ofNat 692), []), (sL 12), (sL 36)]), (14, [], [(sL 36), (sL 34), (sL 35), ((.ofNat 1), [])]), (15, [], [(sL 36), (sL 34), (sL 35), (sL 37)])]), 0, 0),
   ((38, [qtN 12 7 7, qtN 33 0 5, (34, (.negSucc 2147483647), (.negSucc 0))], [], [qvK (.negSucc 1)], zh48, [(2, [1], []), (1, [1], []), (17, [1], [((.ofNat 692), []), (sL 12), (sL 36)]), (14, [], [(sL 36), (sL 34), (sL 35), ((.ofNat 1), [])]), (15, [], [(sL 36), (sL 34), (sL 35), (sL 37)])]), 0, 0),
   ((38, [qtN 12 7 7, qtN 33 0 5, qtN 34 40 2147483647], [], [qvK (.negSucc 1)], zh48, [(2, [1], []), (1, [1], []), (17, [1], [((.ofNat 692), []), (sL 12), (sL 36)]), (14, [], [(sL 36), (sL 34), (sL 35), ((.ofNat 1), [])]), (15, [], [(sL 36), (sL 34), (sL 35), (sL 37)])]), 0, 0),
   ((38, [qtN 12 7 7, qtN 33 0 5, qtN 34 0 39, (35, (.negSucc 2147483647), (.ofNat 0))], [], [qvK (.negSucc 1)], zh48, [(2, [1], []), (1, [1], []), (17, [1], [((.ofNat 692), []), (sL 12), (sL 36)]), (14, [], [(sL 36), (sL 34), (sL 35), ((.ofNat 1), [])]), (15, [], [(sL 36), (sL 34), (sL 35), (sL 37)])]), 0, 0),
   ((38, [qtN 12 7 7, qtN 33 0 5, qtN 34 0 39, qtN 35 41 2147483647], [], [qvK (.negSucc 1)], zh48, [(2, [1], []), (1, [1], []), (17, [1], [((.ofNat 692), []), (sL 12), (sL 36)]), (14, [], [(sL 36), (sL 34), (sL 35), ((.ofNat 1), [])]), (15, [], [(sL 36), (sL 34), (sL 35), (sL 37)])]), 0, 0),
   ((38, [qtN 12 8 8, (33, (.negSucc 2147483647), (.negSucc 0))], [], [qvK (.negSucc 1)], zh48, [(2, [1], []), (1, [1], []), (17, [1], [((.ofNat 692), []), (sL 12), (sL 36)]), (14, [], [(sL 36), (sL 34), (sL 35), ((.ofNat 1), [])]), (15, [], [(sL 36), (sL 34), (sL 35), (sL 37)])]), 0, 0),
   ((38, [qtN 12 8 8, qtN 33 6 2147483647], [], [qvK (.negSucc 1)], zh48, [(2, [1], []), (1, [1], []), (17, [1], [((.ofNat 692), []), (sL 12), (sL 36)]), (14, [], [(sL 36), (sL 34), (sL 35), ((.ofNat 1), [])]), (15, [], [(sL 36), (sL 34), (sL 35), (sL 37)])]), 0, 0),
   ((38, [qtN 12 8 8, qtN 33 0 5, (34, (.negSucc 2147483647), (.negSucc 0))], [], [qvK (.negSucc 1)], zh48, [(2, [1], []), (1, [1], []), (17, [1], [((.ofNat 692), []), (sL 12), (sL 36)]), (14, [], [(sL 36), (sL 34), (sL 35), ((.ofNat 1), [])]), (15, [], [(sL 36), (sL 34), (sL 35), (sL 37)])]), 0, 0),
   ((38, [qtN 12 8 8, qtN 33 0 5, qtN 34 40 2147483647], [], [qvK (.negSucc 1)], zh48, [(2, [1], []), (1, [1], []), (17, [1], [((.ofNat 692), []), (sL 12), (sL 36)]), (14, [], [(sL 36), (sL 34), (sL 35), ((.ofNat 1), [])]), (15, [], [(sL 36), (sL 34), (sL 35), (sL 37)])]), 0, 0),
   ((38, [qtN 12 8 8, qtN 33 0 5, qtN 34 0 39, (35, (.negSucc 2147483647), (.ofNat 0))], [], [qvK (.negSucc 1)], zh48, [(2, [1], []), (1, [1], []), (17, [1], [((.ofNat 692), []), (sL 12), (sL 36)]), (14, [], [(sL 36), (sL 34), (sL 35), ((.ofNat 1), [])]), (15, [], [(sL 36), (sL 34), (sL 35), (sL 37)])]), 0, 0),
   ((38, [qtN 12 8 8, qtN 33 0 5, qtN 34 0 39, qtN 35 41 2147483647], [], [qvK (.negSucc 1)], zh48, [(2, [1], []), (1, [1], []), (17, [1], [((.ofNat 692), []), (sL 12), (sL 36)]), (14, [], [(sL 36), (sL 34), (sL 35), ((.ofNat 1), [])]), (15, [], [(sL 36), (sL 34), (sL 35), (sL 37)])]), 0, 0),
   ((38, [qtN 12 0 7, qtN 33 0 5, qtN 34 0 39, qtN 35 1 40], [((.negSucc 39), [(34, (.ofNat 1)), (35, (.ofNat 1))])], [qvS 12], zh91, [(2, [1], []), (1, [1], []), (17, [1], [((.ofNat 692), []), ((.ofNat 1), [(12, (.ofNat 1))]), (sL 37)]), (14, [], [(sL 36), (sL 34), (sL 35), ((.ofNat 1), [])]), (15, [], [(sL 36), (sL 34), (sL 35), (sL 37)])]), 0, 0),
   ((38, [qtN 12 8 8, qtN 33 0 5, qtN 34 0 39, qtN 35 1 40], [((.negSucc 39), [(34, (.ofNat 1)), (35, (.ofNat 1))])], [qvK (.negSucc 3)], zh48, [(2, [1], []), (1, [1], []), (20, [1], [((.ofNat 692), []), ((.ofNat 8), []), (sL 34), (sL 35)]), (17, [1], [((.ofNat 692), []), (sL 12), (sL 36)]), (14, [], [(sL 36), (sL 34), (sL 35), ((.ofNat 1), [])]), (15, [], [(sL 36), (sL 34), (sL 35), (sL 37)])]), 0, 0)])
noncomputable def c150_2_e : List Ct := [c145_0]
noncomputable def c150_2_p0 : PE := (46, [0, 1, 2, 3, 4], (38, (zt7 [qtN 33 0 5, qtN 34 0 39, qtN 35 1 40]), [((.negSucc 39), [(34, (.ofNat 1)), (35, (.ofNat 1))]), ((.ofNat 1), [(19, (.negSucc 0)), (20, (.negSucc 0)), (21, (.negSucc 0)), (22, (.negSucc 0))])], [qvR 0, qvS 33, qvS 34, qvS 35, qvK (.ofNat 0)], zh48, [(2, [1], []), (1, [1], []), (20, [1], [((.ofNat 692), []), ((.ofNat 0), []), (sL 34), (sL 35)]), (17, [1], [((.ofNat 692), []), (sL 12), (sL 36)]), (14, [], [(sL 36), (sL 34), (sL 35), ((.ofNat 1), [])]), (15, [], [(sL 36), (sL 34), (sL 35), (sL 37)])]), symsL 38 0, some ((.ofNat 17), []), 0, 0)
noncomputable def c150_2_p1 : PE := (46, [0, 1, 2, 3, 4], (38, (zt8 [qtN 33 0 5, qtN 34 0 39, qtN 35 1 40]), [((.negSucc 39), [(34, (.ofNat 1)), (35, (.ofNat 1))]), ((.ofNat 1), [(19, (.negSucc 0)), (20, (.negSucc 0)), (21, (.negSucc 0)), (22, (.negSucc 0))])], [qvR 0, qvS 33, qvS 34, qvS 35, qvK (.ofNat 0)], zh48, [(2, [1], []), (1, [1], []), (20, [1], [((.ofNat 692), []), ((.ofNat 0), []), (sL 34), (sL 35)]), (17, [1], [((.ofNat 692), []), (sL 12), (sL 36)]), (14, [], [(sL 36), (sL 34), (sL 35), ((.ofNat 1), [])]), (15, [], [(sL 36), (sL 34), (sL 35), (sL 37)])]), symsL 38 0, some ((.ofNat 17), []), 0, 0)
noncomputable def c150_2_p2 : PE := (46, [0, 1, 2, 3, 4, 5], (38, (zt8 [qtN 33 0 5, qtN 34 0 39, qtN 35 1 40]), [((.negSucc 39), [(34, (.ofNat 1)), (35, (.ofNat 1))]), ((.ofNat 1), [(19, (.negSucc 0)), (20, (.negSucc 0)), (21, (.negSucc 0)), (22, (.negSucc 0))])], [qvR 0, qvS 33, qvS 34, qvS 35, qvK (.ofNat 1), qvK (.ofNat 692)], zh48, [(2, [1], []), (1, [1], []), (20, [1], [((.ofNat 692), []), ((.ofNat 1), []), (sL 34), (sL 35)]), (17, [1], [((.ofNat 692), []), (sL 12), (sL 36)]), (14, [], [(sL 36), (sL 34), (sL 35), ((.ofNat 1), [])]), (15, [], [(sL 36), (sL 34), (sL 35), (sL 37)])]), symsL 38 0, some ((.ofNat 16), []), 0, 0)
noncomputable def c150_2_p3 : PE := (46, [0, 1, 2, 3, 4], (38, (zt9 [qtN 33 0 5, qtN 34 0 39, qtN 35 1 40]), [((.negSucc 39), [(34, (.ofNat 1)), (35, (.ofNat 1))]), ((.ofNat 1), [(19, (.negSucc 0)), (20, (.negSucc 0)), (21, (.negSucc 0)), (22, (.negSucc 0))])], [qvR 0, qvS 33, qvS 34, qvS 35, qvK (.ofNat 0)], zh48, [(2, [1], []), (1, [1], []), (20, [1], [((.ofNat 692), []), ((.ofNat 0), []), (sL 34), (sL 35)]), (17, [1], [((.ofNat 692), []), (sL 12), (sL 36)]), (14, [], [(sL 36), (sL 34), (sL 35), ((.ofNat 1), [])]), (15, [], [(sL 36), (sL 34), (sL 35), (sL 37)])]), symsL 38 0, some ((.ofNat 17), []), 0, 0)
noncomputable def c150_2_p4 : PE := (46, [0, 1, 2, 3, 4, 5], (40, (zt9 [qtN 33 0 5, qtN 34 0 39, qtN 35 1 40, qtN 38 1 2, qtN 39 692 695]), [((.negSucc 39), [(34, (.ofNat 1)), (35, (.ofNat 1))]), ((.ofNat 1), [(19, (.negSucc 0)), (20, (.negSucc 0)), (21, (.negSucc 0)), (22, (.negSucc 0))])], [qvR 0, qvS 33, qvS 34, qvS 35, qvS 38, qvS 39], zh48, [(2, [1], []), (1, [1], []), (20, [1], [((.ofNat 692), []), (sL 38), (sL 34), (sL 35)]), (17, [1], [((.ofNat 692), []), (sL 12), (sL 36)]), (14, [], [(sL 36), (sL 34), (sL 35), ((.ofNat 1), [])]), (15, [], [(sL 36), (sL 34), (sL 35), (sL 37)])]), symsL 38 0, some ((.ofNat 17), [(38, (.negSucc 0))]), 0, 0)
noncomputable def c150_2_p5 : PE := (46, [0, 1, 2, 3, 4], (38, (zt10 [qtN 33 0 5, qtN 34 0 39, qtN 35 1 40]), [((.negSucc 39), [(34, (.ofNat 1)), (35, (.ofNat 1))]), ((.ofNat 1), [(19, (.negSucc 0)), (20, (.negSucc 0)), (21, (.negSucc 0)), (22, (.negSucc 0))])], [qvR 0, qvS 33, qvS 34, qvS 35, qvK (.ofNat 0)], zh48, [(2, [1], []), (1, [1], []), (20, [1], [((.ofNat 692), []), ((.ofNat 0), []), (sL 34), (sL 35)]), (17, [1], [((.ofNat 692), []), (sL 12), (sL 36)]), (14, [], [(sL 36), (sL 34), (sL 35), ((.ofNat 1), [])]), (15, [], [(sL 36), (sL 34), (sL 35), (sL 37)])]), symsL 38 0, some ((.ofNat 17), []), 0, 0)
noncomputable def c150_2_p6 : PE := (46, [0, 1, 2, 3, 4, 5], (40, (zt10 [qtN 33 0 5, qtN 34 0 39, qtN 35 1 40, qtN 38 1 3, qtN 39 692 698]), [((.negSucc 39), [(34, (.ofNat 1)), (35, (.ofNat 1))]), ((.ofNat 1), [(19, (.negSucc 0)), (20, (.negSucc 0)), (21, (.negSucc 0)), (22, (.negSucc 0))])], [qvR 0, qvS 33, qvS 34, qvS 35, qvS 38, qvS 39], zh48, [(2, [1], []), (1, [1], []), (20, [1], [((.ofNat 692), []), (sL 38), (sL 34), (sL 35)]), (17, [1], [((.ofNat 692), []), (sL 12), (sL 36)]), (14, [], [(sL 36), (sL 34), (sL 35), ((.ofNat 1), [])]), (15, [], [(sL 36), (sL 34), (sL 35), (sL 37)])]), symsL 38 0, some ((.ofNat 17), [(38, (.negSucc 0))]), 0, 0)
noncomputable def c150_2_p7 : PE := (46, [0, 1, 2, 3, 4], (38, (zt11 [qtN 33 0 5, qtN 34 0 39, qtN 35 1 40]), [((.negSucc 39), [(34, (.ofNat 1)), (35, (.ofNat 1))]), ((.ofNat 1), [(19, (.negSucc 0)), (20, (.negSucc 0)), (21, (.negSucc 0)), (22, (.negSucc 0))])], [qvR 0, qvS 33, qvS 34, qvS 35, qvK (.ofNat 0)], zh48, [(2, [1], []), (1, [1], []), (20, [1], [((.ofNat 692), []), ((.ofNat 0), []), (sL 34), (sL 35)]), (17, [1], [((.ofNat 692), []), (sL 12), (sL 36)]), (14, [], [(sL 36), (sL 34), (sL 35), ((.ofNat 1), [])]), (15, [], [(sL 36), (sL 34), (sL 35), (sL 37)])]), symsL 38 0, some ((.ofNat 17), []), 0, 0)
noncomputable def c150_2_p8 : PE := (46, [0, 1, 2, 3, 4, 5], (40, (zt11 [qtN 33 0 5, qtN 34 0 39, qtN 35 1 40, qtN 38 1 4, qtN 39 692 910]), [((.negSucc 39), [(34, (.ofNat 1)), (35, (.ofNat 1))]), ((.ofNat 1), [(19, (.negSucc 0)), (20, (.negSucc 0)), (21, (.negSucc 0)), (22, (.negSucc 0))])], [qvR 0, qvS 33, qvS 34, qvS 35, qvS 38, qvS 39], zh48, [(2, [1], []), (1, [1], []), (20, [1], [((.ofNat 692), []), (sL 38), (sL 34), (sL 35)]), (17, [1], [((.ofNat 692), []), (sL 12), (sL 36)]), (14, [], [(sL 36), (sL 34), (sL 35), ((.ofNat 1), [])]), (15, [], [(sL 36), (sL 34), (sL 35), (sL 37)])]), symsL 38 0, some ((.ofNat 17), [(38, (.negSucc 0))]), 0, 0)
noncomputable def c150_2_p9 : PE := (46, [0, 1, 2, 3, 4], (38, (zt12 [qtN 33 0 5, qtN 34 0 39, qtN 35 1 40]), [((.negSucc 39), [(34, (.ofNat 1)), (35, (.ofNat 1))]), ((.ofNat 1), [(19, (.negSucc 0)), (20, (.negSucc 0)), (21, (.negSucc 0)), (22, (.negSucc 0))])], [qvR 0, qvS 33, qvS 34, qvS 35, qvK (.ofNat 0)], zh48, [(2, [1], []), (1, [1], []), (20, [1], [((.ofNat 692), []), ((.ofNat 0), []), (sL 34), (sL 35)]), (17, [1], [((.ofNat 692), []), (sL 12), (sL 36)]), (14, [], [(sL 36), (sL 34), (sL 35), ((.ofNat 1), [])]), (15, [], [(sL 36), (sL 34), (sL 35), (sL 37)])]), symsL 38 0, some ((.ofNat 17), []), 0, 0)
noncomputable def c150_2_p10 : PE := (46, [0, 1, 2, 3, 4, 5], (40, (zt12 [qtN 33 0 5, qtN 34 0 39, qtN 35 1 40, qtN 38 1 5, qtN 39 692 910]), [((.negSucc 39), [(34, (.ofNat 1)), (35, (.ofNat 1))]), ((.ofNat 1), [(19, (.negSucc 0)), (20, (.negSucc 0)), (21, (.negSucc 0)), (22, (.negSucc 0))])], [qvR 0, qvS 33, qvS 34, qvS 35, qvS 38, qvS 39], zh48, [(2, [1], []), (1, [1], []), (20, [1], [((.ofNat 692), []), (sL 38), (sL 34), (sL 35)]), (17, [1], [((.ofNat 692), []), (sL 12), (sL 36)]), (14, [], [(sL 36), (sL 34), (sL 35), ((.ofNat 1), [])]), (15, [], [(sL 36), (sL 34), (sL 35), (sL 37)])]), symsL 38 0, some ((.ofNat 17), [(38, (.negSucc 0))]), 0, 0)
noncomputable def c150_2_p11 : PE := (46, [0, 1, 2, 3, 4], (38, (zt13 [qtN 33 0 5, qtN 34 0 39, qtN 35 1 40]), [((.negSucc 39), [(34, (.ofNat 1)), (35, (.ofNat 1))]), ((.ofNat 1), [(19, (.negSucc 0)), (20, (.negSucc 0)), (21, (.negSucc 0)), (22, (.negSucc 0))])], [qvR 0, qvS 33, qvS 34, qvS 35, qvK (.ofNat 0)], zh48, [(2, [1], []), (1, [1], []), (20, [1], [((.ofNat 692), []), ((.ofNat 0), []), (sL 34), (sL 35)]), (17, [1], [((.ofNat 692), []), (sL 12), (sL 36)]), (14, [], [(sL 36), (sL 34), (sL 35), ((.ofNat 1), [])]), (15, [], [(sL 36), (sL 34), (sL 35), (sL 37)])]), symsL 38 0, some ((.ofNat 17), []), 0, 0)
noncomputable def c150_2_p12 : PE := (46, [0, 1, 2, 3, 4, 5], (40, (zt13 [qtN 33 0 5, qtN 34 0 39, qtN 35 1 40, qtN 38 1 6, qtN 39 692 910]), [((.negSucc 39), [(34, (.ofNat 1)), (35, (.ofNat 1))]), ((.ofNat 1), [(19, (.negSucc 0)), (20, (.negSucc 0)), (21, (.negSucc 0)), (22, (.negSucc 0))])], [qvR 0, qvS 33, qvS 34, qvS 35, qvS 38, qvS 39], zh48, [(2, [1], []), (1, [1], []), (20, [1], [((.ofNat 692), []), (sL 38), (sL 34), (sL 35)]), (17, [1], [((.ofNat 692), []), (sL 12), (sL 36)]), (14, [], [(sL 36), (sL 34), (sL 35), ((.ofNat 1), [])]), (15, [], [(sL 36), (sL 34), (sL 35), (sL 37)])]), symsL 38 0, some ((.ofNat 17), [(38, (.negSucc 0))]), 0, 0)
noncomputable def c150_2_p13 : PE := (46, [0, 1, 2, 3, 4], (38, (zt14 [qtN 33 0 5, qtN 34 0 39, qtN 35 1 40]), [((.negSucc 39), [(34, (.ofNat 1)), (35, (.ofNat 1))]), ((.ofNat 1), [(19, (.negSucc 0)), (20, (.negSucc 0)), (21, (.negSucc 0)), (22, (.negSucc 0))])], [qvR 0, qvS 33, qvS 34, qvS 35, qvK (.ofNat 0)], zh48, [(2, [1], []), (1, [1], []), (20, [1], [((.ofNat 692), []), ((.ofNat 0), []), (sL 34), (sL 35)]), (17, [1], [((.ofNat 692), []), (sL 12), (sL 36)]), (14, [], [(sL 36), (sL 34), (sL 35), ((.ofNat 1), [])]), (15, [], [(sL 36), (sL 34), (sL 35), (sL 37)])]), symsL 38 0, some ((.ofNat 17), []), 0, 0)
noncomputable def c150_2_p14 : PE := (46, [0, 1, 2, 3, 4, 5], (40, (zt14 [qtN 33 0 5, qtN 34 0 39, qtN 35 1 40, qtN 38 1 7, qtN 39 692 910]), [((.negSucc 39), [(34, (.ofNat 1)), (35, (.ofNat 1))]), ((.ofNat 1), [(19, (.negSucc 0)), (20, (.negSucc 0)), (21, (.negSucc 0)), (22, (.negSucc 0))])], [qvR 0, qvS 33, qvS 34, qvS 35, qvS 38, qvS 39], zh48, [(2, [1], []), (1, [1], []), (20, [1], [((.ofNat 692), []), (sL 38), (sL 34), (sL 35)]), (17, [1], [((.ofNat 692), []), (sL 12), (sL 36)]), (14, [], [(sL 36), (sL 34), (sL 35), ((.ofNat 1), [])]), (15, [], [(sL 36), (sL 34), (sL 35), (sL 37)])]), symsL 38 0, some ((.ofNat 17), [(38, (.negSucc 0))]), 0, 0)
noncomputable def c150_2_p15 : PE := (46, [0, 1, 2, 3, 4], (38, (zt15 [qtN 33 0 5, qtN 34 0 39, qtN 35 1 40]), [((.negSucc 39), [(34, (.ofNat 1)), (35, (.ofNat 1))]), ((.ofNat 1), [(19, (.negSucc 0)), (20, (.negSucc 0)), (21, (.negSucc 0)), (22, (.negSucc 0))])], [qvR 0, qvS 33, qvS 34, qvS 35, qvK (.ofNat 0)], zh48, [(2, [1], []), (1, [1], []), (20, [1], [((.ofNat 692), []), ((.ofNat 0), []), (sL 34), (sL 35)]), (17, [1], [((.ofNat 692), []), (sL 12), (sL 36)]), (14, [], [(sL 36), (sL 34), (sL 35), ((.ofNat 1), [])]), (15, [], [(sL 36), (sL 34), (sL 35), (sL 37)])]), symsL 38 0, some ((.ofNat 17), []), 0, 0)
noncomputable def c150_2_p16 : PE := (46, [0, 1, 2, 3, 4, 5], (40, (zt15 [qtN 33 0 5, qtN 34 0 39, qtN 35 1 40, qtN 38 1 8, qtN 39 692 910]), [((.negSucc 39), [(34, (.ofNat 1)), (35, (.ofNat 1))]), ((.ofNat 1), [(19, (.negSucc 0)), (20, (.negSucc 0)), (21, (.negSucc 0)), (22, (.negSucc 0))])], [qvR 0, qvS 33, qvS 34, qvS 35, qvS 38, qvS 39], zh48, [(2, [1], []), (1, [1], []), (20, [1], [((.ofNat 692), []), (sL 38), (sL 34), (sL 35)]), (17, [1], [((.ofNat 692), []), (sL 12), (sL 36)]), (14, [], [(sL 36), (sL 34), (sL 35), ((.ofNat 1), [])]), (15, [], [(sL 36), (sL 34), (sL 35), (sL 37)])]), symsL 38 0, some ((.ofNat 17), [(38, (.negSucc 0))]), 0, 0)
noncomputable def c150_2_pts : List PE := [c150_2_p0, c150_2_p1, c150_2_p2, c150_2_p3, c150_2_p4, c150_2_p5, c150_2_p6, c150_2_p7, c150_2_p8, c150_2_p9, c150_2_p10, c150_2_p11, c150_2_p12, c150_2_p13, c150_2_p14, c150_2_p15, c150_2_p16]
set_option maxRecDepth 100000 in
theorem c150_2_k : enCtF c150_2 c150_2_e (pkP (c150_2_pts ++ []) [0, 1, 3, 5, 7, 9, 11, 13, 15]) (some (12, 0, 9)) ((hOr (atPc 32 (fN20 0 692 2 3)) (hOr (atPc 67 (fEl 1 0 5)) (hOr (atPc 68 (fEl 2 0 5)) (hOr (atPc 108 fOv) (hOr (atPc 40 fRm) (hOr (atPc 105 fRm) (hOr (atPc 114 fRm) (hOr (hSplit 142 504 ) (hOr (atPc 143 fCn2) (hOr (atPc 151 (fExp 1 0 4)) (hOr (atPc 161 (fExp 2 0 4)) (atPc 170 fXr)))))))))))), noM, 70368744177664, 1499503551122450726028980918096117285255439359934464, 38) 3000 = true := by decide +kernel
set_option maxRecDepth 100000 in
theorem c150_2_k0 : ptCtF c150_2 c150_2_e (pkP (c150_2_pts ++ []) []) ((hOr (atPc 32 (fN20 0 692 2 3)) (hOr (atPc 67 (fEl 1 0 5)) (hOr (atPc 68 (fEl 2 0 5)) (hOr (atPc 108 fOv) (hOr (atPc 40 fRm) (hOr (atPc 105 fRm) (hOr (atPc 114 fRm) (hOr (hSplit 142 504 ) (hOr (atPc 143 fCn2) (hOr (atPc 151 (fExp 1 0 4)) (hOr (atPc 161 (fExp 2 0 4)) (atPc 170 fXr)))))))))))), noM, 70368744177664, 1499503551122450726028980918096117285255439359934464, 38) 3000 c150_2_p0 = true := by decide +kernel
set_option maxRecDepth 100000 in
theorem c150_2_k1 : ptCtF c150_2 c150_2_e (pkP (c150_2_pts ++ []) [2]) ((hOr (atPc 32 (fN20 0 692 2 3)) (hOr (atPc 67 (fEl 1 0 5)) (hOr (atPc 68 (fEl 2 0 5)) (hOr (atPc 108 fOv) (hOr (atPc 40 fRm) (hOr (atPc 105 fRm) (hOr (atPc 114 fRm) (hOr (hSplit 142 504 ) (hOr (atPc 143 fCn2) (hOr (atPc 151 (fExp 1 0 4)) (hOr (atPc 161 (fExp 2 0 4)) (atPc 170 fXr)))))))))))), noM, 70368744177664, 1499503551122450726028980918096117285255439359934464, 38) 3000 c150_2_p1 = true := by decide +kernel
set_option maxRecDepth 100000 in
theorem c150_2_k2 : ptCtF c150_2 c150_2_e (pkP (c150_2_pts ++ []) []) ((hOr (atPc 32 (fN20 0 692 2 3)) (hOr (atPc 67 (fEl 1 0 5)) (hOr (atPc 68 (fEl 2 0 5)) (hOr (atPc 108 fOv) (hOr (atPc 40 fRm) (hOr (atPc 105 fRm) (hOr (atPc 114 fRm) (hOr (hSplit 142 504 ) (hOr (atPc 143 fCn2) (hOr (atPc 151 (fExp 1 0 4)) (hOr (atPc 161 (fExp 2 0 4)) (atPc 170 fXr)))))))))))), noM, 70368744177664, 1499503551122450726028980918096117285255439359934464, 38) 3000 c150_2_p2 = true := by decide +kernel
set_option maxRecDepth 100000 in
theorem c150_2_k3 : ptCtF c150_2 c150_2_e (pkP (c150_2_pts ++ []) [4]) ((hOr (atPc 32 (fN20 0 692 2 3)) (hOr (atPc 67 (fEl 1 0 5)) (hOr (atPc 68 (fEl 2 0 5)) (hOr (atPc 108 fOv) (hOr (atPc 40 fRm) (hOr (atPc 105 fRm) (hOr (atPc 114 fRm) (hOr (hSplit 142 504 ) (hOr (atPc 143 fCn2) (hOr (atPc 151 (fExp 1 0 4)) (hOr (atPc 161 (fExp 2 0 4)) (atPc 170 fXr)))))))))))), noM, 70368744177664, 1499503551122450726028980918096117285255439359934464, 38) 3000 c150_2_p3 = true := by decide +kernel
set_option maxRecDepth 100000 in
theorem c150_2_k4 : ptCtF c150_2 c150_2_e (pkP (c150_2_pts ++ []) [4]) ((hOr (atPc 32 (fN20 0 692 2 3)) (hOr (atPc 67 (fEl 1 0 5)) (hOr (atPc 68 (fEl 2 0 5)) (hOr (atPc 108 fOv) (hOr (atPc 40 fRm) (hOr (atPc 105 fRm) (hOr (atPc 114 fRm) (hOr (hSplit 142 504 ) (hOr (atPc 143 fCn2) (hOr (atPc 151 (fExp 1 0 4)) (hOr (atPc 161 (fExp 2 0 4)) (atPc 170 fXr)))))))))))), noM, 70368744177664, 1499503551122450726028980918096117285255439359934464, 38) 3000 c150_2_p4 = true := by decide +kernel
set_option maxRecDepth 100000 in
theorem c150_2_k5 : ptCtF c150_2 c150_2_e (pkP (c150_2_pts ++ []) [6]) ((hOr (atPc 32 (fN20 0 692 2 3)) (hOr (atPc 67 (fEl 1 0 5)) (hOr (atPc 68 (fEl 2 0 5)) (hOr (atPc 108 fOv) (hOr (atPc 40 fRm) (hOr (atPc 105 fRm) (hOr (atPc 114 fRm) (hOr (hSplit 142 504 ) (hOr (atPc 143 fCn2) (hOr (atPc 151 (fExp 1 0 4)) (hOr (atPc 161 (fExp 2 0 4)) (atPc 170 fXr)))))))))))), noM, 70368744177664, 1499503551122450726028980918096117285255439359934464, 38) 3000 c150_2_p5 = true := by decide +kernel
set_option maxRecDepth 100000 in
theorem c150_2_k6 : ptCtF c150_2 c150_2_e (pkP (c150_2_pts ++ []) [6]) ((hOr (atPc 32 (fN20 0 692 2 3)) (hOr (atPc 67 (fEl 1 0 5)) (hOr (atPc 68 (fEl 2 0 5)) (hOr (atPc 108 fOv) (hOr (atPc 40 fRm) (hOr (atPc 105 fRm) (hOr (atPc 114 fRm) (hOr (hSplit 142 504 ) (hOr (atPc 143 fCn2) (hOr (atPc 151 (fExp 1 0 4)) (hOr (atPc 161 (fExp 2 0 4)) (atPc 170 fXr)))))))))))), noM, 70368744177664, 1499503551122450726028980918096117285255439359934464, 38) 3000 c150_2_p6 = true := by decide +kernel
set_option maxRecDepth 100000 in
theorem c150_2_k7 : ptCtF c150_2 c150_2_e (pkP (c150_2_pts ++ []) [8]) ((hOr (atPc 32 (fN20 0 692 2 3)) (hOr (atPc 67 (fEl 1 0 5)) (hOr (atPc 68 (fEl 2 0 5)) (hOr (atPc 108 fOv) (hOr (atPc 40 fRm) (hOr (atPc 105 fRm) (hOr (atPc 114 fRm) (hOr (hSplit 142 504 ) (hOr (atPc 143 fCn2) (hOr (atPc 151 (fExp 1 0 4)) (hOr (atPc 161 (fExp 2 0 4)) (atPc 170 fXr)))))))))))), noM, 70368744177664, 1499503551122450726028980918096117285255439359934464, 38) 3000 c150_2_p7 = true := by decide +kernel
set_option maxRecDepth 100000 in
theorem c150_2_k8 : ptCtF c150_2 c150_2_e (pkP (c150_2_pts ++ []) [8]) ((hOr (atPc 32 (fN20 0 692 2 3)) (hOr (atPc 67 (fEl 1 0 5)) (hOr (atPc 68 (fEl 2 0 5)) (hOr (atPc 108 fOv) (hOr (atPc 40 fRm) (hOr (atPc 105 fRm) (hOr (atPc 114 fRm) (hOr (hSplit 142 504 ) (hOr (atPc 143 fCn2) (hOr (atPc 151 (fExp 1 0 4)) (hOr (atPc 161 (fExp 2 0 4)) (atPc 170 fXr)))))))))))), noM, 70368744177664, 1499503551122450726028980918096117285255439359934464, 38) 3000 c150_2_p8 = true := by decide +kernel
set_option maxRecDepth 100000 in
theorem c150_2_k9 : ptCtF c150_2 c150_2_e (pkP (c150_2_pts ++ []) [10]) ((hOr (atPc 32 (fN20 0 692 2 3)) (hOr (atPc 67 (fEl 1 0 5)) (hOr (atPc 68 (fEl 2 0 5)) (hOr (atPc 108 fOv) (hOr (atPc 40 fRm) (hOr (atPc 105 fRm) (hOr (atPc 114 fRm) (hOr (hSplit 142 504 ) (hOr (atPc 143 fCn2) (hOr (atPc 151 (fExp 1 0 4)) (hOr (atPc 161 (fExp 2 0 4)) (atPc 170 fXr)))))))))))), noM, 70368744177664, 1499503551122450726028980918096117285255439359934464, 38) 3000 c150_2_p9 = true := by decide +kernel
set_option maxRecDepth 100000 in
theorem c150_2_k10 : ptCtF c150_2 c150_2_e (pkP (c150_2_pts ++ []) [10]) ((hOr (atPc 32 (fN20 0 692 2 3)) (hOr (atPc 67 (fEl 1 0 5)) (hOr (atPc 68 (fEl 2 0 5)) (hOr (atPc 108 fOv) (hOr (atPc 40 fRm) (hOr (atPc 105 fRm) (hOr (atPc 114 fRm) (hOr (hSplit 142 504 ) (hOr (atPc 143 fCn2) (hOr (atPc 151 (fExp 1 0 4)) (hOr (atPc 161 (fExp 2 0 4)) (atPc 170 fXr)))))))))))), noM, 70368744177664, 1499503551122450726028980918096117285255439359934464, 38) 3000 c150_2_p10 = true := by decide +kernel
set_option maxRecDepth 100000 in
theorem c150_2_k11 : ptCtF c150_2 c150_2_e (pkP (c150_2_pts ++ []) [12]) ((hOr (atPc 32 (fN20 0 692 2 3)) (hOr (atPc 67 (fEl 1 0 5)) (hOr (atPc 68 (fEl 2 0 5)) (hOr (atPc 108 fOv) (hOr (atPc 40 fRm) (hOr (atPc 105 fRm) (hOr (atPc 114 fRm) (hOr (hSplit 142 504 ) (hOr (atPc 143 fCn2) (hOr (atPc 151 (fExp 1 0 4)) (hOr (atPc 161 (fExp 2 0 4)) (atPc 170 fXr)))))))))))), noM, 70368744177664, 1499503551122450726028980918096117285255439359934464, 38) 3000 c150_2_p11 = true := by decide +kernel
set_option maxRecDepth 100000 in
theorem c150_2_k12 : ptCtF c150_2 c150_2_e (pkP (c150_2_pts ++ []) [12]) ((hOr (atPc 32 (fN20 0 692 2 3)) (hOr (atPc 67 (fEl 1 0 5)) (hOr (atPc 68 (fEl 2 0 5)) (hOr (atPc 108 fOv) (hOr (atPc 40 fRm) (hOr (atPc 105 fRm) (hOr (atPc 114 fRm) (hOr (hSplit 142 504 ) (hOr (atPc 143 fCn2) (hOr (atPc 151 (fExp 1 0 4)) (hOr (atPc 161 (fExp 2 0 4)) (atPc 170 fXr)))))))))))), noM, 70368744177664, 1499503551122450726028980918096117285255439359934464, 38) 3000 c150_2_p12 = true := by decide +kernel
set_option maxRecDepth 100000 in
theorem c150_2_k13 : ptCtF c150_2 c150_2_e (pkP (c150_2_pts ++ []) [14]) ((hOr (atPc 32 (fN20 0 692 2 3)) (hOr (atPc 67 (fEl 1 0 5)) (hOr (atPc 68 (fEl 2 0 5)) (hOr (atPc 108 fOv) (hOr (atPc 40 fRm) (hOr (atPc 105 fRm) (hOr (atPc 114 fRm) (hOr (hSplit 142 504 ) (hOr (atPc 143 fCn2) (hOr (atPc 151 (fExp 1 0 4)) (hOr (atPc 161 (fExp 2 0 4)) (atPc 170 fXr)))))))))))), noM, 70368744177664, 1499503551122450726028980918096117285255439359934464, 38) 3000 c150_2_p13 = true := by decide +kernel
set_option maxRecDepth 100000 in
theorem c150_2_k14 : ptCtF c150_2 c150_2_e (pkP (c150_2_pts ++ []) [14]) ((hOr (atPc 32 (fN20 0 692 2 3)) (hOr (atPc 67 (fEl 1 0 5)) (hOr (atPc 68 (fEl 2 0 5)) (hOr (atPc 108 fOv) (hOr (atPc 40 fRm) (hOr (atPc 105 fRm) (hOr (atPc 114 fRm) (hOr (hSplit 142 504 ) (hOr (atPc 143 fCn2) (hOr (atPc 151 (fExp 1 0 4)) (hOr (atPc 161 (fExp 2 0 4)) (atPc 170 fXr)))))))))))), noM, 70368744177664, 1499503551122450726028980918096117285255439359934464, 38) 3000 c150_2_p14 = true := by decide +kernel
set_option maxRecDepth 100000 in
theorem c150_2_k15 : ptCtF c150_2 c150_2_e (pkP (c150_2_pts ++ []) [16]) ((hOr (atPc 32 (fN20 0 692 2 3)) (hOr (atPc 67 (fEl 1 0 5)) (hOr (atPc 68 (fEl 2 0 5)) (hOr (atPc 108 fOv) (hOr (atPc 40 fRm) (hOr (atPc 105 fRm) (hOr (atPc 114 fRm) (hOr (hSplit 142 504 ) (hOr (atPc 143 fCn2) (hOr (atPc 151 (fExp 1 0 4)) (hOr (atPc 161 (fExp 2 0 4)) (atPc 170 fXr)))))))))))), noM, 70368744177664, 1499503551122450726028980918096117285255439359934464, 38) 3000 c150_2_p15 = true := by decide +kernel
set_option maxRecDepth 100000 in
theorem c150_2_k16 : ptCtF c150_2 c150_2_e (pkP (c150_2_pts ++ []) [16]) ((hOr (atPc 32 (fN20 0 692 2 3)) (hOr (atPc 67 (fEl 1 0 5)) (hOr (atPc 68 (fEl 2 0 5)) (hOr (atPc 108 fOv) (hOr (atPc 40 fRm) (hOr (atPc 105 fRm) (hOr (atPc 114 fRm) (hOr (hSplit 142 504 ) (hOr (atPc 143 fCn2) (hOr (atPc 151 (fExp 1 0 4)) (hOr (atPc 161 (fExp 2 0 4)) (atPc 170 fXr)))))))))))), noM, 70368744177664, 1499503551122450726028980918096117285255439359934464, 38) 3000 c150_2_p16 = true := by decide +kernel
set_option maxRecDepth 100000 in
theorem c150_2_v : ValidC PPk c150_2 := ct_ok fpk ⟨(hOr_ok (atPc_ok (fN20_ok 0 692 2 3)) (hOr_ok (atPc_ok (fEl_ok 1 0 5)) (hOr_ok (atPc_ok (fEl_ok 2 0 5)) (hOr_ok (atPc_ok fOv_ok) (hOr_ok (atPc_ok fRm_ok) (hOr_ok (atPc_ok fRm_ok) (hOr_ok (atPc_ok fRm_ok) (hOr_ok (hSplit_ok 142 504 ) (hOr_ok (atPc_ok fCn2_ok) (hOr_ok (atPc_ok (fExp_ok 1 0 4)) (hOr_ok (atPc_ok (fExp_ok 2 0 4)) (atPc_ok fXr_ok)))))))))))), noM_ok⟩ (d := 1) (ext := []) (pts := c150_2_pts) (env := c150_2_e) rfl (List.forall_mem_cons.mpr ⟨⟨c145_0_v, Nat.le_of_ble_eq_true rfl⟩, fun _ h => (by cases h)⟩) ext_nil (fun q h => (by cases h; exact Nat.le_of_ble_eq_true rfl)) (enF c150_2_k) (List.forall_mem_cons.mpr ⟨⟨_, ptF c150_2_k0⟩, List.forall_mem_cons.mpr ⟨⟨_, ptF c150_2_k1⟩, List.forall_mem_cons.mpr ⟨⟨_, ptF c150_2_k2⟩, List.forall_mem_cons.mpr ⟨⟨_, ptF c150_2_k3⟩, List.forall_mem_cons.mpr ⟨⟨_, ptF c150_2_k4⟩, List.forall_mem_cons.mpr ⟨⟨_, ptF c150_2_k5⟩, List.forall_mem_cons.mpr ⟨⟨_, ptF c150_2_k6⟩, List.forall_mem_cons.mpr ⟨⟨_, ptF c150_2_k7⟩, List.forall_mem_cons.mpr ⟨⟨_, ptF c150_2_k8⟩, List.forall_mem_cons.mpr ⟨⟨_, ptF c150_2_k9⟩, List.forall_mem_cons.mpr ⟨⟨_, ptF c150_2_k10⟩, List.forall_mem_cons.mpr ⟨⟨_, ptF c150_2_k11⟩, List.forall_mem_cons.mpr ⟨⟨_, ptF c150_2_k12⟩, List.forall_mem_cons.mpr ⟨⟨_, ptF c150_2_k13⟩, List.forall_mem_cons.mpr ⟨⟨_, ptF c150_2_k14⟩, List.forall_mem_cons.mpr ⟨⟨_, ptF c150_2_k15⟩, List.forall_mem_cons.mpr ⟨⟨_, ptF c150_2_k16⟩, fun _ h => (by cases h)⟩⟩⟩⟩⟩⟩⟩⟩⟩⟩⟩⟩⟩⟩⟩⟩⟩)

noncomputable def c150_3 : Ct := (150, 2, (37, (zt2 [qtA 33, qtA 34, qtA 35]), [((.ofNat 1), [(19, (.negSucc 0)), (20, (.negSucc 0)), (21, (.negSucc 0)), (22, (.negSucc 0))])], [qvR 0, qvS 33, qvS 34, qvS 35], zh48, [(2, [1], []), (1, [1], []), (17, [1], [((.ofNat 692), []), (sL 12), (sL 36)]), (14, [], [(sL 36), (sL 34), (sL 35), ((.ofNat 1), [])])]),
  [((37, [qtN 12 0 0, (33, (.negSucc 2147483647), (.negSucc 0))], [], [qvK (.negSucc 1)], zh48, [(2, [1], []), (1, [1], []), (17, [1], [((.ofNat 692), []), (sL 12), (sL 36)]), (14, [], [(sL 36), (sL 34), (sL 35), ((.ofNat 1), [])])]), 0, 0),
   ((37, [qtN 12 0 0, qtN 33 6 2147483647], [], [qvK (.negSucc 1)], zh48, [(2, [1], []), (1, [1], []), (17, [1], [((.ofNat 692), []), (sL 12), (sL 36)]), (14, [], [(sL 36), (sL 34), (sL 35), ((.ofNat 1), [])])]), 0, 0),
   ((37, [qtN 12 0 0, qtN 33 0 5, (34, (.negSucc 2147483647), (.negSucc 0))], [], [qvK (.negSucc 1)], zh48, [(2, [1], []), (1, [1], []), (17, [1], [((.ofNat 692), []), (sL 12), (sL 36)]), (14, [], [(sL 36), (sL 34), (sL 35), ((.ofNat 1), [])])]), 0, 0),
   ((37, [qtN 12 0 0, qtN 33 0 5, qtN 34 40 2147483647], [], [qvK (.negSucc 1)], zh48, [(2, [1], []), (1, [1], []), (17, [1], [((.ofNat 692), []), (sL 12), (sL 36)]), (14, [], [(sL 36), (sL 34), (sL 35), ((.ofNat 1), [])])]), 0, 0),
   ((37, [qtN 12 0 0, qtN 33 0 5, qtN 34 0 39, (35, (.negSucc 2147483647), (.ofNat 0))], [], [qvK (.negSucc 1)], zh48, [(2, [1], []), (1, [1], []), (17, [1], [((.ofNat 692), []), (sL 12), (sL 36)]), (14, [], [(sL 36), (sL 34), (sL 35), ((.ofNat 1), [])])]), 0, 0),
   ((37, [qtN 12 0 0, qtN 33 0 5, qtN 34 0 39, qtN 35 41 2147483647], [], [qvK (.negSucc 1)], zh48, [(2, [1], []), (1, [1], []), (17, [1], [((.ofNat 692), []), (sL 12), (sL 36)]), (14, [], [(sL 36), (sL 34), (sL 35), ((.ofNat 1), [])])]), 0, 0),
   ((37, [qtN 12 1 1, (33, (.negSucc 2147483647), (.negSucc 0))], [], [qvK (.negSucc 1)], zh48, [(2, [1], []), (1, [1], []), (17, [1], [((.ofNat 692), []), (sL 12), (sL 36)]), (14, [], [(sL 36), (sL 34), (sL 35), ((.ofNat 1), [])])]), 0, 0),
   ((37, [qtN 12 1 1, qtN 33 6 2147483647], [], [qvK (.negSucc 1)], zh48, [(2, [1], []), (1, [1], []), (17, [1], [((.ofNat 692), []), (sL 12), (sL 36)]), (14, [], [(sL 36), (sL 34), (sL 35), ((.ofNat 1), [])])]), 0, 0),
   ((37, [qtN 12 1 1, qtN 33 0 5, (34, (.negSucc 2147483647), (.negSucc 0))], [], [qvK (.negSucc 1)], zh48, [(2, [1], []), (1, [1], []), (17, [1], [((.ofNat 692), []), (sL 12), (sL 36)]), (14, [], [(sL 36), (sL 34), (sL 35), ((.ofNat 1), [])])]), 0, 0),
   ((37, [qtN 12 1 1, qtN 33 0 5, qtN 34 40 2147483647], [], [qvK (.negSucc 1)], zh48, [(2, [1], []), (1, [1], []), (17, [1], [((.ofNat 692), []), (sL 12), (sL 36)]), (14, [], [(sL 36), (sL 34), (sL 35), ((.ofNat 1), [])])]), 0, 0),
   ((37, [qtN 12 1 1, qtN 33 0 5, qtN 34 0 39, (35, (.negSucc 2147483647), (.ofNat 0))], [], [qvK (.negSucc 1)], zh48, [(2, [1], []), (1, [1], []), (17, [1], [((.ofNat 692), []), (sL 12), (sL 36)]), (14, [], [(sL 36), (sL 34), (sL 35), ((.ofNat 1), [])])]), 0, 0),
   ((37, [qtN 12 1 1, qtN 33 0 5, qtN 34 0 39, qtN 35 41 2147483647], [], [qvK (.negSucc 1)], zh48, [(2, [1], []), (1, [1], []), (17, [1], [((.ofNat 692), []), (sL 12), (sL 36)]), (14, [], [(sL 36), (sL 34), (sL 35), ((.ofNat 1), [])])]), 0, 0),
   ((37, [qtN 12 2 2, (33, (.negSucc 2147483647), (.negSucc 0))], [], [qvK (.negSucc 1)], zh48, [(2, [1], []), (1, [1], []), (17, [1], [((.ofNat 692), []), (sL 12), (sL 36)]), (14, [], [(sL 36), (sL 34), (sL 35), ((.ofNat 1), [])])]), 0, 0),
   ((37, [qtN 12 2 2, qtN 33 6 2147483647], [], [qvK (.negSucc 1)], zh48, [(2, [1], []), (1, [1], []), (17, [1], [((.ofNat 692), []), (sL 12), (sL 36)]), (14, [], [(sL 36), (sL 34), (sL 35), ((.ofNat 1), [])])]), 0, 0),
   ((37, [qtN 12 2 2, qtN 33 0 5, (34, (.negSucc 2147483647), (.negSucc 0))], [], [qvK (.negSucc 1)], zh48, [(2, [1], []), (1, [1], []), (17, [1], [((.ofNat 692), []), (sL 12), (sL 36)]), (14, [], [(sL 36), (sL 34), (sL 35), ((.ofNat 1), [])])]), 0, 0),
   ((37, [qtN 12 2 2, qtN 33 0 5, qtN 34 40 2147483647], [], [qvK (.negSucc 1)], zh48, [(2, [1], []), (1, [1], []), (17, [1], [((.ofNat 692), []), (sL 12), (sL 36)]), (14, [], [(sL 36), (sL 34), (sL 35), ((.ofNat 1), [])])]), 0, 0),
   ((37, [qtN 12 2 2, qtN 33 0 5, qtN 34 0 39, (35, (.negSucc 2147483647), (.ofNat 0))], [], [qvK (.negSucc 1)], zh48, [(2, [1], []), (1, [1], []), (17, [1], [((.ofNat 692), []), (sL 12), (sL 36)]), (14, [], [(sL 36), (sL 34), (sL 35), ((.ofNat 1), [])])]), 0, 0),
   ((37, [qtN 12 2 2, qtN 33 0 5, qtN 34 0 39, qtN 35 41 2147483647], [], [qvK (.negSucc 1)], zh48, [(2, [1], []), (1, [1], []), (17, [1], [((.ofNat 692), []), (sL 12), (sL 36)]), (14, [], [(sL 36), (sL 34), (sL 35), ((.ofNat 1), [])])]), 0, 0),
   ((37, [qtN 12 3 3, (33, (.negSucc 2147483647), (.negSucc 0))], [], [qvK (.negSucc 1)], zh48, [(2, [1], []), (1, [1], []), (17, [1], [((.ofNat 692), []), (sL 12), (sL 36)]), (14, [], [(sL 36), (sL 34), (sL 35), ((.ofNat 1), [])])]), 0, 0),
   ((37, [qtN 12 3 3, qtN 33 6 2147483647], [], [qvK (.negSucc 1)], zh48, [(2, [1], []), (1, [1], []), (17, [1], [((.ofNat 692), []), (sL 12), (sL 36)]), (14, [], [(sL 36), (sL 34), (sL 35), ((.ofNat 1), [])])]), 0, 0),
   ((37, [qtN 12 3 3, qtN 33 0 5, (34, (.negSucc 2147483647), (.negSucc 0))], [], [qvK (.negSucc 1)], zh48, [(2, [1], []), (1, [1], []), (17, [1], [((.ofNat 692), []), (sL 12), (sL 36)]), (14, [], [(sL 36), (sL 34), (sL 35), ((.ofNat 1), [])])]), 0, 0),
   ((37, [qtN 12 3 3, qtN 33 0 5, qtN 34 40 2147483647], [], [qvK (.negSucc 1)], zh48, [(2, [1], []), (1, [1], []), (17, [1], [((.ofNat 692), []), (sL 12), (sL 36)]), (14, [], [(sL 36), (sL 34), (sL 35), ((.ofNat 1), [])])]), 0, 0),
   ((37, [qtN 12 3 3, qtN 33 0 5, qtN 34 0 39, (35, (.negSucc 2147483647), (.ofNat 0))], [], [qvK (.negSucc 1)], zh48, [(2, [1], []), (1, [1], []), (17, [1], [((.ofNat 692), []), (sL 12), (sL 36)]), (14, [], [(sL 36), (sL 34), (sL 35), ((.ofNat 1), [])])]), 0, 0),
   ((37, [qtN 12 3 3, qtN 33 0 5, qtN 34 0 39, qtN 35 41 2147483647], [], [qvK (.negSucc 1)], zh48, [(2, [1], []), (1, [1], []), (17, [1], [((.ofNat 692), []), (sL 12), (sL 36)]), (14, [], [(sL 36), (sL 34), (sL 35), ((.ofNat 1), [])])]), 0, 0),
   ((37, [qtN 12 4 4, (33, (.negSucc 2147483647), (.negSucc 0))], [], [qvK (.negSucc 1)], zh48, [(2, [1], []), (1, [1], []), (17, [1], [((.ofNat 692), []), (sL 12), (sL 36)]), (14, [], [(sL 36), (sL 34), (sL 35), ((.ofNat 1), [])])]), 0, 0),
   ((37, [qtN 12 4 4, qtN 33 6 2147483647], [], [qvK (.negSucc 1)], zh48, [(2, [1], []), (1, [1], []), (17, [1], [((.ofNat 692), []), (sL 12), (sL 36)]), (14, [], [(sL 36), (sL 34), (sL 35), ((.ofNat 1), [])])]), 0, 0),
   ((37, [qtN 12 4 4, qtN 33 0 5, (34, (.negSucc 2147483647), (.negSucc 0))], [], [qvK (.negSucc 1)], zh48, [(2, [1], []), (1, [1], []), (17, [1], [((.ofNat 692), []), (sL 12), (sL 36)]), (14, [], [(sL 36), (sL 34), (sL 35), ((.ofNat 1), [])])]), 0, 0),
   ((37, [qtN 12 4 4, qtN 33 0 5, qtN 34 40 2147483647], [], [qvK (.negSucc 1)], zh48, [(2, [1], []), (1, [1], []), (17, [1], [((.ofNat 692), []), (sL 12), (sL 36)]), (14, [], [(sL 36), (sL 34), (sL 35), ((.ofNat 1), [])])]), 0, 0),
   ((37, [qtN 12 4 4, qtN 33 0 5, qtN 34 0 39, (35, (.negSucc 2147483647), (.ofNat 0))], [], [qvK (.negSucc 1)], zh48, [(2, [1], []), (1, [1], []), (17, [1], [((.ofNat 692), []), (sL 12), (sL 36)]), (14, [], [(sL 36), (sL 34), (sL 35), ((.ofNat 1), [])])]), 0, 0),
   ((37, [qtN 12 4 4, qtN 33 0 5, qtN 34 0 39, qtN 35 41 2147483647], [], [qvK (.negSucc 1)], zh48, [(2, [1], []), (1, [1], []), (17, [1], [((.ofNat 692), []), (sL 12), (sL 36)]), (14, [], [(sL 36), (sL 34), (sL 35), ((.ofNat 1), [])])]), 0, 0),
   ((37, [qtN 12 5 5, (33, (.negSucc 2147483647), (.negSucc 0))], [], [qvK (.negSucc 1)], zh48, [(2, [1], []), (1, [1], []), (17, [1], [((.ofNat 692), []), (sL 12), (sL 36)]), (14, [], [(sL 36), (sL 34), (sL 35), ((.ofNat 1), [])])]), 0, 0),
   ((37, [qtN 12 5 5, qtN 33 6 2147483647], [], [qvK (.negSucc 1)], zh48, [(2, [1], []), (1, [1], []), (17, [1], [((.ofNat 692), []), (sL 12), (sL 36)]), (14, [], [(sL 36), (sL 34), (sL 35), ((.ofNat 1), [])])]), 0, 0),
   ((37, [qtN 12 5 5, qtN 33 0 5, (34, (.negSucc 2147483647), (.negSucc 0))], [], [qvK (.negSucc 1)], zh48, [(2, [1], []), (1, [1], []), (17, [1], [((.ofNat 692), []), (sL 12), (sL 36)]), (14, [], [(sL 36), (sL 34), (sL 35), ((.ofNat 1), [])])]), 0, 0),
   ((37, [qtN 12 5 5, qtN 33 0 5, qtN 34 40 2147483647], [], [qvK (.negSucc 1)], zh48, [(2, [1], []), (1, [1], []), (17, [1], [((.ofNat 692), []), (sL 12), (sL 36)]), (14, [], [(sL 36), (sL 34), (sL 35), ((.ofNat 1), [])])]), 0, 0),
   ((37, [qtN 12 5 5, qtN 33 0 5, qtN 34 0 39, (35, (.negSucc 2147483647), (.ofNat 0))], [], [qvK (.negSucc 1)], zh48, [(2, [1], []), (1, [1], []), (17, [1], [((.ofNat 692), []), (sL 12), (sL 36)]), (14, [], [(sL 36), (sL 34), (sL 35), ((.ofNat 1), [])])]), 0, 0),
   ((37, [qtN 12 5 5, qtN 33 0 5, qtN 34 0 39, qtN 35 41 2147483647], [], [qvK (.negSucc 1)], zh48, [(2, [1], []), (1, [1], []), (17, [1], [((.ofNat 692), []), (sL 12), (sL 36)]), (14, [], [(sL 36), (sL 34), (sL 35), ((.ofNat 1), [])])]), 0, 0),
   ((37, [qtN 12 6 6, (33, (.negSucc 2147483647), (.negSucc 0))], [], [qvK (.negSucc 1)], zh48, [(2, [1], []), (1, [1], []), (17, [1], [((.ofNat 692), []), (sL 12), (sL 36)]), (14, [], [(sL 36), (sL 34), (sL 35), ((.ofNat 1), [])])]), 0, 0),
   ((37, [qtN 12 6 6, qtN 33 6 2147483647], [], [qvK (.negSucc 1)], zh48, [(2, [1], []), (1, [1], []), (17, [1], [((.ofNat 692), []), (sL 12), (sL 36)]), (14, [], [(sL 36), (sL 34), (sL 35), ((.ofNat 1), [])])]), 0, 0),
   ((37, [qtN 12 6 6, qtN 33 0 5, (34, (.negSucc 2147483647), (.negSucc 0))], [], [qvK (.negSucc 1)], zh48, [(2, [1], []), (1, [1], []), (17, [1], [((.ofNat 692), []), (sL 12), (sL 36)]), (14, [], [(sL 36), (sL 34), (sL 35), ((.ofNat 1), [])])]), 0, 0),
   ((37, [qtN 12 6 6, qtN 33 0 5, qtN 34 40 2147483647], [], [qvK (.negSucc 1)], zh48, [(2, [1], []), (1, [1], []), (17, [1], [((.ofNat 692), []), (sL 12), (sL 36)]), (14, [], [(sL 36), (sL 34), (sL 35), ((.ofNat 1), [])])]), 0, 0),
   ((37, [qtN 12 6 6, qtN 33 0 5, qtN 34 0 39, (35, (.negSucc 2147483647), (.ofNat 0))], [], [qvK (.negSucc 1)], zh48, [(2, [1], []), (1, [1], []), (17, [1], [((.ofNat 692), []), (sL 12), (sL 36)]), (14, [], [(sL 36), (sL 34), (sL 35), ((.ofNat 1), [])])]), 0, 0),
   ((37, [qtN 12 6 6, qtN 33 0 5, qtN 34 0 39, qtN 35 41 2147483647], [], [qvK (.negSucc 1)], zh48, [(2, [1], []), (1, [1], []), (17, [1], [((.ofNat 692), []), (sL 12), (sL 36)]), (14, [], [(sL 36), (sL 34), (sL 35), ((.ofNat 1), [])])]), 0, 0),
   ((37, [qtN 12 7 7, (33, (.negSucc 2147483647), (.negSucc 0))], [], [qvK (.negSucc 1)], zh48, [(2, [1], []), (1, [1], []), (17, [1], [((.ofNat 692), []), (sL 12), (sL 36)]), (14, [], [(sL 36), (sL 34), (sL 35), ((.ofNat 1), [])])]), 0, 0),
   ((37, [qtN 12 7 7, qtN 33 6 2147483647], [], [qvK (.negSucc 1)], zh48, [(2, [1], []), (1, [1], []), (17, [1], [((.ofNat 692), []), (sL 12), (sL 36)]), (14, [], [(sL 36), (sL 34), (sL 35), ((.ofNat 1), [])])]), 0, 0),
   ((37, [qtN 12 7 7, qtN 33 0 5, (34, (.negSucc 2147483647), (.negSucc 0))], [], [qvK (.negSucc 1)], zh48, [(2, [1], []), (1, [1], []), (17, [1], [((.ofNat 692), []), (sL 12), (sL 36)]), (14, [], [(sL 36), (sL 34), (sL 35), ((.ofNat 1), [])])]), 0, 0),
   ((37, [qtN 12 7 7, qtN 33 0 5, qtN 34 40 2147483647], [], [qvK (.negSucc 1)], zh48, [(2, [1], []), (1, [1], []), (17, [1], [((.ofNat 692), []), (sL 12), (sL 36)]), (14, [], [(sL 36), (sL 34), (sL 35), ((.ofNat 1), [])])]), 0, 0),
   ((37, [qtN 12 7 7, qtN 33 0 5, qtN 34 0 39, (35, (.negSucc 2147483647), (.ofNat 0))], [], [qvK (.negSucc 1)], zh48, [(2, [1], []), (1, [1], []), (17, [1], [((.ofNat 692), []), (sL 12), (sL 36)]), (14, [], [(sL 36), (sL 34), (sL 35), ((.ofNat 1), [])])]), 0, 0),
   ((37, [qtN 12 7 7, qtN 33 0 5, qtN 34 0 39, qtN 35 41 2147483647], [], [qvK (.negSucc 1)], zh48, [(2, [1], []), (1, [1], []), (17, [1], [((.ofNat 692), []), (sL 12), (sL 36)]), (14, [], [(sL 36), (sL 34), (sL 35), ((.ofNat 1), [])])]), 0, 0),
   ((37, [qtN 12 8 8, (33, (.negSucc 2147483647), (.negSucc 0))], [], [qvK (.negSucc 1)], zh48, [(2, [1], []), (1, [1], []), (17, [1], [((.ofNat 692), []), (sL 12), (sL 36)]), (14, [], [(sL 36), (sL 34), (sL 35), ((.ofNat 1), [])])]), 0, 0),
   ((37, [qtN 12 8 8, qtN 33 6 2147483647], [], [qvK (.negSucc 1)], zh48, [(2, [1], []), (1, [1], []), (17, [1], [((.ofNat 692), []), (sL 12), (sL 36)]), (14, [], [(sL 36), (sL 34), (sL 35), ((.ofNat 1), [])])]), 0, 0),
   ((37, [qtN 12 8 8, qtN 33 0 5, (34, (.negSucc 2147483647), (.negSucc 0))], [], [qvK (.negSucc 1)], zh48, [(2, [1], []), (1, [1], []), (17, [1], [((.ofNat 692), []), (sL 12), (sL 36)]), (14, [], [(sL 36), (sL 34), (sL 35), ((.ofNat 1), [])])]), 0, 0),
   ((37, [qtN 12 8 8, qtN 33 0 5, qtN 34 40 2147483647], [], [qvK (.negSucc 1)], zh48, [(2, [1], []), (1, [1], []), (17, [1], [((.ofNat 692), []), (sL 12), (sL 36)]), (14, [], [(sL 36), (sL 34), (sL 35), ((.ofNat 1), [])])]), 0, 0),
   ((37, [qtN 12 8 8, qtN 33 0 5, qtN 34 0 39, (35, (.negSucc 2147483647), (.ofNat 0))], [], [qvK (.negSucc 1)], zh48, [(2, [1], []), (1, [1], []), (17, [1], [((.ofNat 692), []), (sL 12), (sL 36)]), (14, [], [(sL 36), (sL 34), (sL 35), ((.ofNat 1), [])])]), 0, 0),
   ((37, [qtN 12 8 8, qtN 33 0 5, qtN 34 0 39, qtN 35 41 2147483647], [], [qvK (.negSucc 1)], zh48, [(2, [1], []), (1, [1], []), (17, [1], [((.ofNat 692), []), (sL 12), (sL 36)]), (14, [], [(sL 36), (sL 34), (sL 35), ((.ofNat 1), [])])]), 0, 0),
   ((38, [qtN 12 0 7, qtN 33 0 5, qtN 34 0 39, qtN 35 1 40], [((.negSucc 39), [(34, (.ofNat 1)), (35, (.ofNat 1))])], [qvS 12], zh91, [(2, [1], []), (1, [1], []), (17, [1], [((.ofNat 692), []), ((.ofNat 1), [(12, (.ofNat 1))]), (sL 37)]), (15, [], [(sL 36), (sL 34), (sL 35), (sL 37)]), (14, [], [(sL 36), (sL 34), (sL 35), ((.ofNat 1), [])])]), 0, 0),
   ((37, [qtN 12 8 8, qtN 33 0 5, qtN 34 0 39, qtN 35 1 40], [((.negSucc 39), [(34, (.ofNat 1)), (35, (.ofNat 1))])], [qvK (.negSucc 3)], zh48, [(2, [1], []), (1, [1], []), (20, [1], [((.ofNat 692), []), ((.ofNat 8), []), (sL 34), (sL 35)]), (17, [1], [((.ofNat 692), []), (sL 12), (sL 36)]), (14, [], [(sL 36), (sL 34), (sL 35), ((.ofNat 1), [])])]), 0, 0)])
noncomputable def c150_3_e : List Ct := [c145_0]
noncomputable def c150_3_p0 : PE := (46, [0, 1, 2, 3, 4], (37, (zt7 [qtN 33 0 5, qtN 34 0 39, qtN 35 1 40]), [((.negSucc 39), [(34, (.ofNat 1)), (35, (.ofNat 1))]), ((.ofNat 1), [(19, (.negSucc 0)), (20, (.negSucc 0)), (21, (.negSucc 0)), (22, (.negSucc 0))])], [qvR 0, qvS 33, qvS 34, qvS 35, qvK (.ofNat 0)], zh48, [(2, [1], []), (1, [1], []), (20, [1], [((.ofNat 692), []), ((.ofNat 0), []), (sL 34), (sL 35)]), (17, [1], [((.ofNat 692), []), (sL 12), (sL 36)]), (14, [], [(sL 36), (sL 34), (sL 35), ((.ofNat 1), [])])]), symsL 37 0, some ((.ofNat 17), []), 0, 0)
noncomputable def c150_3_p1 : PE := (46, [0, 1, 2, 3, 4], (37, (zt8 [qtN 33 0 5, qtN 34 0 39, qtN 35 1 40]), [((.negSucc 39), [(34, (.ofNat 1)), (35, (.ofNat 1))]), ((.ofNat 1), [(19, (.negSucc 0)), (20, (.negSucc 0)), (21, (.negSucc 0)), (22, (.negSucc 0))])], [qvR 0, qvS 33, qvS 34, qvS 35, qvK (.ofNat 0)], zh48, [(2, [1], []), (1, [1], []), (20, [1], [((.ofNat 692), []), ((.ofNat 0), []), (sL 34), (sL 35)]), (17, [1], [((.ofNat 692), []), (sL 12), (sL 36)]), (14, [], [(sL 36), (sL 34), (sL 35), ((.ofNat 1), [])])]), symsL 37 0, some ((.ofNat 17), []), 0, 0)
noncomputable def c150_3_p2 : PE := (46, [0, 1, 2, 3, 4, 5], (37, (zt8 [qtN 33 0 5, qtN 34 0 39, qtN 35 1 40]), [((.negSucc 39), [(34, (.ofNat 1)), (35, (.ofNat 1))]), ((.ofNat 1), [(19, (.negSucc 0)), (20, (.negSucc 0)), (21, (.negSucc 0)), (22, (.negSucc 0))])], [qvR 0, qvS 33, qvS 34, qvS 35, qvK (.ofNat 1), qvK (.ofNat 692)], zh48, [(2, [1], []), (1, [1], []), (20, [1], [((.ofNat 692), []), ((.ofNat 1), []), (sL 34), (sL 35)]), (17, [1], [((.ofNat 692), []), (sL 12), (sL 36)]), (14, [], [(sL 36), (sL 34), (sL 35), ((.ofNat 1), [])])]), symsL 37 0, some ((.ofNat 16), []), 0, 0)
noncomputable def c150_3_p3 : PE := (46, [0, 1, 2, 3, 4], (37, (zt9 [qtN 33 0 5, qtN 34 0 39, qtN 35 1 40]), [((.negSucc 39), [(34, (.ofNat 1)), (35, (.ofNat 1))]), ((.ofNat 1), [(19, (.negSucc 0)), (20, (.negSucc 0)), (21, (.negSucc 0)), (22, (.negSucc 0))])], [qvR 0, qvS 33, qvS 34, qvS 35, qvK (.ofNat 0)], zh48, [(2, [1], []), (1, [1], []), (20, [1], [((.ofNat 692), []), ((.ofNat 0), []), (sL 34), (sL 35)]), (17, [1], [((.ofNat 692), []), (sL 12), (sL 36)]), (14, [], [(sL 36), (sL 34), (sL 35), ((.ofNat 1), [])])]), symsL 37 0, some ((.ofNat 17), []), 0, 0)
noncomputable def c150_3_p4 : PE := (46, [0, 1, 2, 3, 4, 5], (39, (zt9 [qtN 33 0 5, qtN 34 0 39, qtN 35 1 40, qtN 37 1 2, qtN 38 692 695]), [((.negSucc 39), [(34, (.ofNat 1)), (35, (.ofNat 1))]), ((.ofNat 1), [(19, (.negSucc 0)), (20, (.negSucc 0)), (21, (.negSucc 0)), (22, (.negSucc 0))])], [qvR 0, qvS 33, qvS 34, qvS 35, qvS 37, qvS 38], zh48, [(2, [1], []), (1, [1], []), (20, [1], [((.ofNat 692), []), (sL 37), (sL 34), (sL 35)]), (17, [1], [((.ofNat 692), []), (sL 12), (sL 36)]), (14, [], [(sL 36), (sL 34), (sL 35), ((.ofNat 1), [])])]), symsL 37 0, some ((.ofNat 17), [(37, (.negSucc 0))]), 0, 0)
noncomputable def c150_3_p5 : PE := (46, [0, 1, 2, 3, 4], (37, (zt10 [qtN 33 0 5, qtN 34 0 39, qtN 35 1 40]), [((.negSucc 39), [(34, (.ofNat 1)), (35, (.ofNat 1))]), ((.ofNat 1), [(19, (.negSucc 0)), (20, (.negSucc 0)), (21, (.negSucc 0)), (22, (.negSucc 0))])], [qvR 0, qvS 33, qvS 34, qvS 35, qvK (.ofNat 0)], zh48, [(2, [1], []), (1, [1], []), (20, [1], [((.ofNat 692), []), ((.ofNat 0), []), (sL 34), (sL 35)]), (17, [1], [((.ofNat 692), []), (sL 12), (sL 36)]), (14, [], [(sL 36), (sL 34), (sL 35), ((.ofNat 1), [])])]), symsL 37 0, some ((.ofNat 17), []), 0, 0)
noncomputable def c150_3_p6 : PE := (46, [0, 1, 2, 3, 4, 5], (39, (zt10 [qtN 33 0 5, qtN 34 0 39, qtN 35 1 40, qtN 37 1 3, qtN 38 692 698]), [((.negSucc 39), [(34, (.ofNat 1)), (35, (.ofNat 1))]), ((.ofNat 1), [(19, (.negSucc 0)), (20, (.negSucc 0)), (21, (.negSucc 0)), (22, (.negSucc 0))])], [qvR 0, qvS 33, qvS 34, qvS 35, qvS 37, qvS 38], zh48, [(2, [1], []), (1, [1], []), (20, [1], [((.ofNat 692), []), (sL 37), (sL 34), (sL 35)]), (17, [1], [((.ofNat 692), []), (sL 12), (sL 36)]), (14, [], [(sL 36), (sL 34), (sL 35), ((.ofNat 1), [])])]), symsL 37 0, some ((.ofNat 17), [(37, (.negSucc 0))]), 0, 0)
noncomputable def c150_3_p7 : PE := (46, [0, 1, 2, 3, 4], (37, (zt11 [qtN 33 0 5, qtN 34 0 39, qtN 35 1 40]), [((.negSucc 39), [(34, (.ofNat 1)), (35, (.ofNat 1))]), ((.ofNat 1), [(19, (.negSucc 0)), (20, (.negSucc 0)), (21, (.negSucc 0)), (22, (.negSucc 0))])], [qvR 0, qvS 33, qvS 34, qvS 35, qvK (.ofNat 0)], zh48, [(2, [1], []), (1, [1], []), (20, [1], [((.ofNat 692), []), ((.ofNat 0), []), (sL 34), (sL 35)]), (17, [1], [((.ofNat 692), []), (sL 12), (sL 36)]), (14, [], [(sL 36), (sL 34), (sL 35), ((.ofNat 1), [])])]), symsL 37 0, some ((.ofNat 17), []), 0, 0)
noncomputable def c150_3_p8 : PE := (46, [0, 1, 2, 3, 4, 5], (39, (zt11 [qtN 33 0 5, qtN 34 0 39, qtN 35 1 40, qtN 37 1 4, qtN 38 692 910]), [((.negSucc 39), [(34, (.ofNat 1)), (35, (.ofNat 1))]), ((.ofNat 1), [(19, (.negSucc 0)), (20, (.negSucc 0)), (21, (.negSucc 0)), (22, (.negSucc 0))])], [qvR 0, qvS 33, qvS 34, qvS 35, qvS 37, qvS 38], zh48, [(2, [1], []), (1, [1], []), (20, [1], [((.ofNat 692), []), (sL 37), (sL 34), (sL 35)]), (17, [1], [((.ofNat 692), []), (sL 12), (sL 36)]), (14, [], [(sL 36), (sL 34), (sL 35), ((.ofNat 1), [])])]), symsL 37 0, some ((.ofNat 17), [(37, (.negSucc 0))]), 0, 0)
noncomputable def c150_3_p9 : PE := (46, [0, 1, 2, 3, 4], (37, (zt12 [qtN 33 0 5, qtN 34 0 39, qtN 35 1 40]), [((.negSucc 39), [(34, (.ofNat 1)), (35, (.ofNat 1))]), ((.ofNat 1), [(19, (.negSucc 0)), (20, (.negSucc 0)), (21, (.negSucc 0)), (22, (.negSucc 0))])], [qvR 0, qvS 33, qvS 34, qvS 35, qvK (.ofNat 0)], zh48, [(2, [1], []), (1, [1], []), (20, [1], [((.ofNat 692), []), ((.ofNat 0), []), (sL 34), (sL 35)]), (17, [1], [((.ofNat 692), []), (sL 12), (sL 36)]), (14, [], [(sL 36), (sL 34), (sL 35), ((.ofNat 1), [])])]), symsL 37 0, some ((.ofNat 17), []), 0, 0)
noncomputable def c150_3_p10 : PE := (46, [0, 1, 2, 3, 4, 5], (39, (zt12 [qtN 33 0 5, qtN 34 0 39, qtN 35 1 40, qtN 37 1 5, qtN 38 692 910]), [((.negSucc 39), [(34, (.ofNat 1)), (35, (.ofNat 1))]), ((.ofNat 1), [(19, (.negSucc 0)), (20, (.negSucc 0)), (21, (.negSucc 0)), (22, (.negSucc 0))])], [qvR 0, qvS 33, qvS 34, qvS 35, qvS 37, qvS 38], zh48, [(2, [1], []), (1, [1], []), (20, [1], [((.ofNat 692), []), (sL 37), (sL 34), (sL 35)]), (17, [1], [((.ofNat 692), []), (sL 12), (sL 36)]), (14, [], [(sL 36), (sL 34), (sL 35), ((.ofNat 1), [])])]), symsL 37 0, some ((.ofNat 17), [(37, (.negSucc 0))]), 0, 0)
noncomputable def c150_3_p11 : PE := (46, [0, 1, 2, 3, 4], (37, (zt13 [qtN 33 0 5, qtN 34 0 39, qtN 35 1 40]), [((.negSucc 39), [(34, (.ofNat 1)), (35, (.ofNat 1))]), ((.ofNat 1), [(19, (.negSucc 0)), (20, (.negSucc 0)), (21, (.negSucc 0)), (22, (.negSucc 0))])], [qvR 0, qvS 33, qvS 34, qvS 35, qvK (.ofNat 0)], zh48, [(2, [1], []), (1, [1], []), (20, [1], [((.ofNat 692), []), ((.ofNat 0), []), (sL 34), (sL 35)]), (17, [1], [((.ofNat 692), []), (sL 12), (sL 36)]), (14, [], [(sL 36), (sL 34), (sL 35), ((.ofNat 1), [])])]), symsL 37 0, some ((.ofNat 17), []), 0, 0)
noncomputable def c150_3_p12 : PE := (46, [0, 1, 2, 3, 4, 5], (39, (zt13 [qtN 33 0 5, qtN 34 0 39, qtN 35 1 40, qtN 37 1 6, qtN 38 692 910]), [((.negSucc 39), [(34, (.ofNat 1)), (35, (.ofNat 1))]), ((.ofNat 1), [(19, (.negSucc 0)), (20, (.negSucc 0)), (21, (.negSucc 0)), (22, (.negSucc 0))])], [qvR 0, qvS 33, qvS 34, qvS 35, qvS 37, qvS 38], zh48, [(2, [1], []), (1, [1], []), (20, [1], [((.ofNat 692), []), (sL 37), (sL 34), (sL 35)]), (17, [1], [((.ofNat 692), []), (sL 12), (sL 36)]), (14, [], [(sL 36), (sL 34), (sL 35), ((.ofNat 1), [])])]), symsL 37 0, some ((.ofNat 17), [(37, (.negSucc 0))]), 0, 0)
noncomputable def c150_3_p13 : PE := (46, [0, 1, 2, 3, 4], (37, (zt14 [qtN 33 0 5, qtN 34 0 39, qtN 35 1 40]), [((.negSucc 39), [(34, (.ofNat 1)), (35, (.ofNat 1))]), ((.ofNat 1), [(19, (.negSucc 0)), (20, (.negSucc 0)), (21, (.negSucc 0)), (22, (.negSucc 0))])], [qvR 0, qvS 33, qvS 34, qvS 35, qvK (.ofNat 0)], zh48, [(2, [1], []), (1, [1], []), (20, [1], [((.ofNat 692), []), ((.ofNat 0), []), (sL 34), (sL 35)]), (17, [1], [((.ofNat 692), []), (sL 12), (sL 36)]), (14, [], [(sL 36), (sL 34), (sL 35), ((.ofNat 1), [])])]), symsL 37 0, some ((.ofNat 17), []), 0, 0)
noncomputable def c150_3_p14 : PE := (46, [0, 1, 2, 3, 4, 5], (39, (zt14 [qtN 33 0 5, qtN 34 0 39, qtN 35 1 40, qtN 37 1 7, qtN 38 692 910]), [((.negSucc 39), [(34, (.ofNat 1)), (35, (.ofNat 1))]), ((.ofNat 1), [(19, (.negSucc 0)), (20, (.negSucc 0)), (21, (.negSucc 0)), (22, (.negSucc 0))])], [qvR 0, qvS 33, qvS 34, qvS 35, qvS 37, qvS 38], zh48, [(2, [1], []), (1, [1], []), (20, [1], [((.ofNat 692), []), (sL 37), (sL 34), (sL 35)]), (17, [1], [((.ofNat 692), []), (sL 12), (sL 36)]), (14, [], [(sL 36), (sL 34), (sL 35), ((.ofNat 1), [])])]), symsL 37 0, some ((.ofNat 17), [(37, (.negSucc 0))]), 0, 0)
noncomputable def c150_3_p15 : PE := (46, [0, 1, 2, 3, 4], (37, (zt15 [qtN 33 0 5, qtN 34 0 39, qtN 35 1 40]), [((.negSucc 39), [(34, (.ofNat 1)), (35, (.ofNat 1))]), ((.ofNat 1), [(19, (.negSucc 0)), (20, (.negSucc 0)), (21, (.negSucc 0)), (22, (.negSucc 0))])], [qvR 0, qvS 33, qvS 34, qvS 35, qvK (.ofNat 0)], zh48, [(2, [1], []), (1, [1], []), (20, [1], [((.ofNat 692), []), ((.ofNat 0), []), (sL 34), (sL 35)]), (17, [1], [((.ofNat 692), []), (sL 12), (sL 36)]), (14, [], [(sL 36), (sL 34), (sL 35), ((.ofNat 1), [])])]), symsL 37 0, some ((.ofNat 17), []), 0, 0)
noncomputable def c150_3_p16 : PE := (46, [0, 1, 2, 3, 4, 5], (39, (zt15 [qtN 33 0 5, qtN 34 0 39, qtN 35 1 40, qtN 37 1 8, qtN 38 692 910]), [((.negSucc 39), [(34, (.ofNat 1)), (35, (.ofNat 1))]), ((.ofNat 1), [(19, (.negSucc 0)), (20, (.negSucc 0)), (21, (.negSucc 0)), (22, (.negSucc 0))])], [qvR 0, qvS 33, qvS 34, qvS 35, qvS 37, qvS 38], zh48, [(2, [1], []), (1, [1], []), (20, [1], [((.ofNat 692), []), (sL 37), (sL 34), (sL 35)]), (17, [1], [((.ofNat 692), []), (sL 12), (sL 36)]), (14, [], [(sL 36), (sL 34), (sL 35), ((.ofNat 1), [])])]), symsL 37 0, some ((.ofNat 17), [(37, (.negSucc 0))]), 0, 0)
noncomputable def c150_3_pts : List PE := [c150_3_p0, c150_3_p1, c150_3_p2, c150_3_p3, c150_3_p4, c150_3_p5, c150_3_p6, c150_3_p7, c150_3_p8, c150_3_p9, c150_3_p10, c150_3_p11, c150_3_p12, c150_3_p13, c150_3_p14, c150_3_p15, c150_3_p16]
set_option maxRecDepth 100000 in
theorem c150_3_k : enCtF c150_3 c150_3_e (pkP (c150_3_pts ++ []) [0, 1, 3, 5, 7, 9, 11, 13, 15]) (some (12, 0, 9)) ((hOr (atPc 32 (fN20 0 692 2 3)) (hOr (atPc 67 (fEl 1 0 5)) (hOr (atPc 68 (fEl 2 0 5)) (hOr (atPc 108 fOv) (hOr (atPc 40 fRm) (hOr (atPc 105 fRm) (hOr (atPc 114 fRm) (hOr (hSplit 142 504 ) (hOr (atPc 143 fCn2) (hOr (atPc 151 (fExp 1 0 4)) (hOr (atPc 161 (fExp 2 0 4)) (atPc 170 fXr)))))))))))), noM, 70368744177664, 1499503551122450726028980918096117285255439359934464, 37) 3000 = true := by decide +kernel
set_option maxRecDepth 100000 in
theorem c150_3_k0 : ptCtF c150_3 c150_3_e (pkP (c150_3_pts ++ []) []) ((hOr (atPc 32 (fN20 0 692 2 3)) (hOr (atPc 67 (fEl 1 0 5)) (hOr (atPc 68 (fEl 2 0 5)) (hOr (atPc 108 fOv) (hOr (atPc 40 fRm) (hOr (atPc 105 fRm) (hOr (atPc 114 fRm) (hOr (hSplit 142 504 ) (hOr (atPc 143 fCn2) (hOr (atPc 151 (fExp 1 0 4)) (hOr (atPc 161 (fExp 2 0 4)) (atPc 170 fXr)))))))))))), noM, 70368744177664, 1499503551122450726028980918096117285255439359934464, 37) 3000 c150_3_p0 = true := by decide +kernel
set_option maxRecDepth 100000 in
theorem c150_3_k1 : ptCtF c150_3 c150_3_e (pkP (c150_3_pts ++ []) [2]) ((hOr (atPc 32 (fN20 0 692 2 3)) (hOr (atPc 67 (fEl 1 0 5)) (hOr (atPc 68 (fEl 2 0 5)) (hOr (atPc 108 fOv) (hOr (atPc 40 fRm) (hOr (atPc 105 fRm) (hOr (atPc 114 fRm) (hOr (hSplit 142 504 ) (hOr (atPc 143 fCn2) (hOr (atPc 151 (fExp 1 0 4)) (hOr (atPc 161 (fExp 2 0 4)) (atPc 170 fXr)))))))))))), noM, 70368744177664, 1499503551122450726028980918096117285255439359934464, 37) 3000 c150_3_p1 = true := by decide +kernel
set_option maxRecDepth 100000 in
theorem c150_3_k2 : ptCtF c150_3 c150_3_e (pkP (c150_3_pts ++ []) []) ((hOr (atPc 32 (fN20 0 692 2 3)) (hOr (atPc 67 (fEl 1 0 5)) (hOr (atPc 68 (fEl 2 0 5)) (hOr (atPc 108 fOv) (hOr (atPc 40 fRm) (hOr (atPc 105 fRm) (hOr (atPc 114 fRm) (hOr (hSplit 142 504 ) (hOr (atPc 143 fCn2) (hOr (atPc 151 (fExp 1 0 4)) (hOr (atPc 161 (fExp 2 0 4)) (atPc 170 fXr)))))))))))), noM, 70368744177664, 1499503551122450726028980918096117285255439359934464, 37) 3000 c150_3_p2 = true := by decide +kernel
set_option maxRecDepth 100000 in
theorem c150_3_k3 : ptCtF c150_3 c150_3_e (pkP (c150_3_pts ++ []) [4]) ((hOr (atPc 32 (fN20 0 692 2 3)) (hOr (atPc 67 (fEl 1 0 5)) (hOr (atPc 68 (fEl 2 0 5)) (hOr (atPc 108 fOv) (hOr (atPc 40 fRm) (hOr (atPc 105 fRm) (hOr (atPc 114 fRm) (hOr (hSplit 142 504 ) (hOr (atPc 143 fCn2) (hOr (atPc 151 (fExp 1 0 4)) (hOr (atPc 161 (fExp 2 0 4)) (atPc 170 fXr)))))))))))), noM, 70368744177664, 1499503551122450726028980918096117285255439359934464, 37) 3000 c150_3_p3 = true := by decide +kernel
set_option maxRecDepth 100000 in
theorem c150_3_k4 : ptCtF c150_3 c150_3_e (pkP (c150_3_pts ++ []) [4]) ((hOr (atPc 32 (fN20 0 692 2 3)) (hOr (atPc 67 (fEl 1 0 5)) (hOr (atPc 68 (fEl 2 0 5)) (hOr (atPc 108 fOv) (hOr (atPc 40 fRm) (hOr (atPc 105 fRm) (hOr (atPc 114 fRm) (hOr (hSplit 142 504 ) (hOr (atPc 143 fCn2) (hOr (atPc 151 (fExp 1 0 4)) (hOr (atPc 161 (fExp 2 0 4)) (atPc 170 fXr)))))))))))), noM, 70368744177664, 1499503551122450726028980918096117285255439359934464, 37) 3000 c150_3_p4 = true := by decide +kernel
set_option maxRecDepth 100000 in
theorem c150_3_k5 : ptCtF c150_3 c150_3_e (pkP (c150_3_pts ++ []) [6]) ((hOr (atPc 32 (fN20 0 692 2 3)) (hOr (atPc 67 (fEl 1 0 5)) (hOr (atPc 68 (fEl 2 0 5)) (hOr (atPc 108 fOv) (hOr (atPc 40 fRm) (hOr (atPc 105 fRm) (hOr (atPc 114 fRm) (hOr (hSplit 142 504 ) (hOr (atPc 143 fCn2) (hOr (atPc 151 (fExp 1 0 4)) (hOr (atPc 161 (fExp 2 0 4)) (atPc 170 fXr)))))))))))), noM, 70368744177664, 1499503551122450726028980918096117285255439359934464, 37) 3000 c150_3_p5 = true := by decide +kernel
set_option maxRecDepth 100000 in
theorem c150_3_k6 : ptCtF c150_3 c150_3_e (pkP (c150_3_pts ++ []) [6]) ((hOr (atPc 32 (fN20 0 692 2 3)) (hOr (atPc 67 (fEl 1 0 5)) (hOr (atPc 68 (fEl 2 0 5)) (hOr (atPc 108 fOv) (hOr (atPc 40 fRm) (hOr (atPc 105 fRm) (hOr (atPc 114 fRm) (hOr (hSplit 142 504 ) (hOr (atPc 143 fCn2) (hOr (atPc 151 (fExp 1 0 4)) (hOr (atPc 161 (fExp 2 0 4)) (atPc 170 fXr)))))))))))), noM, 70368744177664, 1499503551122450726028980918096117285255439359934464, 37) 3000 c150_3_p6 = true := by decide +kernel
set_option maxRecDepth 100000 in
theorem c150_3_k7 : ptCtF c150_3 c150_3_e (pkP (c150_3_pts ++ []) [8]) ((hOr (atPc 32 (fN20 0 692 2 3)) (hOr (atPc 67 (fEl 1 0 5)) (hOr (atPc 68 (fEl 2 0 5)) (hOr (atPc 108 fOv) (hOr (atPc 40 fRm) (hOr (atPc 105 fRm) (hOr (atPc 114 fRm) (hOr (hSplit 142 504 ) (hOr (atPc 143 fCn2) (hOr (atPc 151 (fExp 1 0 4)) (hOr (atPc 161 (fExp 2 0 4)) (atPc 170 fXr)))))))))))), noM, 70368744177664, 1499503551122450726028980918096117285255439359934464, 37) 3000 c150_3_p7 = true := by decide +kernel
set_option maxRecDepth 100000 in
theorem c150_3_k8 : ptCtF c150_3 c150_3_e (pkP (c150_3_pts ++ []) [8]) ((hOr (atPc 32 (fN20 0 692 2 3)) (hOr (atPc 67 (fEl 1 0 5)) (hOr (atPc 68 (fEl 2 0 5)) (hOr (atPc 108 fOv) (hOr (atPc 40 fRm) (hOr (atPc 105 fRm) (hOr (atPc 114 fRm) (hOr (hSplit 142 504 ) (hOr (atPc 143 fCn2) (hOr (atPc 151 (fExp 1 0 4)) (hOr (atPc 161 (fExp 2 0 4)) (atPc 170 fXr)))))))))))), noM, 70368744177664, 1499503551122450726028980918096117285255439359934464, 37) 3000 c150_3_p8 = true := by decide +kernel
set_option maxRecDepth 100000 in
theorem c150_3_k9 : ptCtF c150_3 c150_3_e (pkP (c150_3_pts ++ []) [10]) ((hOr (atPc 32 (fN20 0 692 2 3)) (hOr (atPc 67 (fEl 1 0 5)) (hOr (atPc 68 (fEl 2 0 5)) (hOr (atPc 108 fOv) (hOr (atPc 40 fRm) (hOr (atPc 105 fRm) (hOr (atPc 114 fRm) (hOr (hSplit 142 504 ) (hOr (atPc 143 fCn2) (hOr (atPc 151 (fExp 1 0 4)) (hOr (atPc 161 (fExp 2 0 4)) (atPc 170 fXr)))))))))))), noM, 70368744177664, 1499503551122450726028980918096117285255439359934464, 37) 3000 c150_3_p9 = true := by decide +kernel
set_option maxRecDepth 100000 in
theorem c150_3_k10 : ptCtF c150_3 c150_3_e (pkP (c150_3_pts ++ []) [10]) ((hOr (atPc 32 (fN20 0 692 2 3)) (hOr (atPc 67 (fEl 1 0 5)) (hOr (atPc 68 (fEl 2 0 5)) (hOr (atPc 108 fOv) (hOr (atPc 40 fRm) (hOr (atPc 105 fRm) (hOr (atPc 114 fRm) (hOr (hSplit 142 504 ) (hOr (atPc 143 fCn2) (hOr (atPc 151 (fExp 1 0 4)) (hOr (atPc 161 (fExp 2 0 4)) (atPc 170 fXr)))))))))))), noM, 70368744177664, 1499503551122450726028980918096117285255439359934464, 37) 3000 c150_3_p10 = true := by decide +kernel
set_option maxRecDepth 100000 in
theorem c150_3_k11 : ptCtF c150_3 c150_3_e (pkP (c150_3_pts ++ []) [12]) ((hOr (atPc 32 (fN20 0 692 2 3)) (hOr (atPc 67 (fEl 1 0 5)) (hOr (atPc 68 (fEl 2 0 5)) (hOr (atPc 108 fOv) (hOr (atPc 40 fRm) (hOr (atPc 105 fRm) (hOr (atPc 114 fRm) (hOr (hSplit 142 504 ) (hOr (atPc 143 fCn2) (hOr (atPc 151 (fExp 1 0 4)) (hOr (atPc 161 (fExp 2 0 4)) (atPc 170 fXr)))))))))))), noM, 70368744177664, 1499503551122450726028980918096117285255439359934464, 37) 3000 c150_3_p11 = true := by decide +kernel
set_option maxRecDepth 100000 in
theorem c150_3_k12 : ptCtF c150_3 c150_3_e (pkP (c150_3_pts ++ []) [12]) ((hOr (atPc 32 (fN20 0 692 2 3)) (hOr (atPc 67 (fEl 1 0 5)) (hOr (atPc 68 (fEl 2 0 5)) (hOr (atPc 108 fOv) (hOr (atPc 40 fRm) (hOr (atPc 105 fRm) (hOr (atPc 114 fRm) (hOr (hSplit 142 504 ) (hOr (atPc 143 fCn2) (hOr (atPc 151 (fExp 1 0 4)) (hOr (atPc 161 (fExp 2 0 4)) (atPc 170 fXr)))))))))))), noM, 70368744177664, 1499503551122450726028980918096117285255439359934464, 37) 3000 c150_3_p12 = true := by decide +kernel
set_option maxRecDepth 100000 in
theorem c150_3_k13 : ptCtF c150_3 c150_3_e (pkP (c150_3_pts ++ []) [14]) ((hOr (atPc 32 (fN20 0 692 2 3)) (hOr (atPc 67 (fEl 1 0 5)) (hOr (atPc 68 (fEl 2 0 5)) (hOr (atPc 108 fOv) (hOr (atPc 40 fRm) (hOr (atPc 105 fRm) (hOr (atPc 114 fRm) (hOr (hSplit 142 504 ) (hOr (atPc 143 fCn2) (hOr (atPc 151 (fExp 1 0 4)) (hOr (atPc 161 (fExp 2 0 4)) (atPc 170 fXr)))))))))))), noM, 70368744177664, 1499503551122450726028980918096117285255439359934464, 37) 3000 c150_3_p13 = true := by decide +kernel
set_option maxRecDepth 100000 in
theorem c150_3_k14 : ptCtF c150_3 c150_3_e (pkP (c150_3_pts ++ []) [14]) ((hOr (atPc 32 (fN20 0 692 2 3)) (hOr (atPc 67 (fEl 1 0 5)) (hOr (atPc 68 (fEl 2 0 5)) (hOr (atPc 108 fOv) (hOr (atPc 40 fRm) (hOr (atPc 105 fRm) (hOr (atPc 114 fRm) (hOr (hSplit 142 504 ) (hOr (atPc 143 fCn2) (hOr (atPc 151 (fExp 1 0 4)) (hOr (atPc 161 (fExp 2 0 4)) (atPc 170 fXr)))))))))))), noM, 70368744177664, 1499503551122450726028980918096117285255439359934464, 37) 3000 c150_3_p14 = true := by decide +kernel
set_option maxRecDepth 100000 in
theorem c150_3_k15 : ptCtF c150_3 c150_3_e (pkP (c150_3_pts ++ []) [16]) ((hOr (atPc 32 (fN20 0 692 2 3)) (hOr (atPc 67 (fEl 1 0 5)) (hOr (atPc 68 (fEl 2 0 5)) (hOr (atPc 108 fOv) (hOr (atPc 40 fRm) (hOr (atPc 105 fRm) (hOr (atPc 114 fRm) (hOr (hSplit 142 504 ) (hOr (atPc 143 fCn2) (hOr (atPc 151 (fExp 1 0 4)) (hOr (atPc 161 (fExp 2 0 4)) (atPc 170 fXr)))))))))))), noM, 70368744177664, 1499503551122450726028980918096117285255439359934464, 37) 3000 c150_3_p15 = true := by decide +kernel
set_option maxRecDepth 100000 in
theorem c150_3_k16 : ptCtF c150_3 c150_3_e (pkP (c150_3_pts ++ []) [16]) ((hOr (atPc 32 (fN20 0 692 2 3)) (hOr (atPc 67 (fEl 1 0 5)) (hOr (atPc 68 (fEl 2 0 5)) (hOr (atPc 108 fOv) (hOr (atPc 40 fRm) (hOr (atPc 105 fRm) (hOr (atPc 114 fRm) (hOr (hSplit 142 504 ) (hOr (atPc 143 fCn2) (hOr (atPc 151 (fExp 1 0 4)) (hOr (atPc 161 (fExp 2 0 4)) (atPc 170 fXr)))))))))))), noM, 70368744177664, 1499503551122450726028980918096117285255439359934464, 37) 3000 c150_3_p16 = true := by decide +kernel
set_option maxRecDepth 100000 in
theorem c150_3_v : ValidC PPk c150_3 := ct_ok fpk ⟨(hOr_ok (atPc_ok (fN20_ok 0 692 2 3)) (hOr_ok (atPc_ok (fEl_ok 1 0 5)) (hOr_ok (atPc_ok (fEl_ok 2 0 5)) (hOr_ok (atPc_ok fOv_ok) (hOr_ok (atPc_ok fRm_ok) (hOr_ok (atPc_ok fRm_ok) (hOr_ok (atPc_ok fRm_ok) (hOr_ok (hSplit_ok 142 504 ) (hOr_ok (atPc_ok fCn2_ok) (hOr_ok (atPc_ok (fExp_ok 1 0 4)) (hOr_ok (atPc_ok (fExp_ok 2 0 4)) (atPc_ok fXr_ok)))))))))))), noM_ok⟩ (d := 1) (ext := []) (pts := c150_3_pts) (env := c150_3_e) rfl (List.forall_mem_cons.mpr ⟨⟨c145_0_v, Nat.le_of_ble_eq_true rfl⟩, fun _ h => (by cases h)⟩) ext_nil (fun q h => (by cases h; exact Nat.le_of_ble_eq_true rfl)) (enF c150_3_k) (List.forall_mem_cons.mpr ⟨⟨_, ptF c150_3_k0⟩, List.forall_mem_cons.mpr ⟨⟨_, ptF c150_3_k1⟩, List.forall_mem_cons.mpr ⟨⟨_, ptF c150_3_k2⟩, List.forall_mem_cons.mpr ⟨⟨_, ptF c150_3_k3⟩, List.forall_mem_cons.mpr ⟨⟨_, ptF c150_3_k4⟩, List.forall_mem_cons.mpr ⟨⟨_, ptF c150_3_k5⟩, List.forall_mem_cons.mpr ⟨⟨_, ptF c150_3_k6⟩, List.forall_mem_cons.mpr ⟨⟨_, ptF c150_3_k7⟩, List.forall_mem_cons.mpr ⟨⟨_, ptF c150_3_k8⟩, List.forall_mem_cons.mpr ⟨⟨_, ptF c150_3_k9⟩, List.forall_mem_cons.mpr ⟨⟨_, ptF c150_3_k10⟩, List.forall_mem_cons.mpr ⟨⟨_, ptF c150_3_k11⟩, List.forall_mem_cons.mpr ⟨⟨_, ptF c150_3_k12⟩, List.forall_mem_cons.mpr ⟨⟨_, ptF c150_3_k13⟩, List.forall_mem_cons.mpr ⟨⟨_, ptF c150_3_k14⟩, List.forall_mem_cons.mpr ⟨⟨_, ptF c150_3_k15⟩, List.forall_mem_cons.mpr ⟨⟨_, ptF c150_3_k16⟩, fun _ h => (by cases h)⟩⟩⟩⟩⟩⟩⟩⟩⟩⟩⟩⟩⟩⟩⟩⟩⟩)

noncomputable def zt16 (r : TbL) : TbL := qtN 0 1 4 :: qtA 1 :: qtA 2 :: qtN 3 1 1000 :: qtN 4 0 50 :: qtN 5 0 10 :: qtN 6 0 60 :: qtN 11 0 60 :: qtN 16 0 8 :: qtN 24 0 6 :: qtN 31 0 60 :: qtA 32 :: qtN 33 0 60 :: qtN 34 0 60 :: qtN 37 0 8 :: qtA 46 :: qtA 47 :: qtA 48 :: qtA 49 :: qtA 50 :: qtA 51 :: qtN 52 0 3 :: qtA 53 :: qtA 54 :: qtA 55 :: qtA 56 :: qtN 57 0 1 :: qtA 58 :: qtA 59 :: qtA 60 :: qtA 61 :: qtA 62 :: qtA 64 :: qtA 65 :: qtA 66 :: qtA 67 :: qtA 69 :: qtA 70 :: qtA 71 :: qtA 72 :: qtA 74 :: qtA 75 :: qtA 76 :: qtA 77 :: qtA 79 :: r
noncomputable def zc92 : AC := qoC 8 [qvR 46, qvS 64, qvS 65, qvS 66, qvS 67]
noncomputable def zc93 : AC := qoC 8 [qvR 48, qvS 69, qvS 70, qvS 71, qvS 72]
noncomputable def zc94 : AC := qoC 8 [qvR 50, qvS 74, qvS 75, qvS 76, qvS 77]
noncomputable def zc95 : AC := qoC 9 [qvR 52, qvR 53, qvR 54, qvS 79]
noncomputable def zh96 : AH := [zc12, zc31, qrC 4 [some 3, some 8], zc32, qkC 100 7, qkC 100 8, qkC 100 9, qkC 100 10, zc33, qkC 100 12, qkC 100 13, qkC 100 14, qkC 100 15, zc34, qkC 100 17, qkC 100 18, qkC 100 19, qkC 100 20, qkC 100 21, qkC 100 22, qkC 100 23, zc35, qkC 100 25, qkC 100 26, qkC 100 27, qkC 100 28, qkC 100 29, qkC 100 30, zc36, qkC 102 35, qkC 100 36, qjC 1 60, zc37, qkC 100 38, qkC 100 39, qkC 100 40, qkC 100 41, qkC 100 42, qkC 100 43, qkC 100 44, qkC 100 45, zc38, zc39, zc40, qkC 100 63, zc92, qkC 100 68, zc93, qkC 100 73, zc94, qkC 100 78, zc95, qkC 100 80, qkC 100 81, qkC 100 82, qkC 100 83, qkC 100 84, zc13, qjC 1 6, qjC 1 4, qrC 6 [none, none], qrC 7 [none, none]]
noncomputable def c23_0 : Ct := (23, 1, (86, (zt16 []), [], [qvR 0], zh96, [(0, [9, 10, 11, 12], []), (0, [4, 5, 6, 7], []), (16, [17, 18], [(sL 16), (sL 85)])]),
  [((86, [], [], [qvS 16], [zc12, zc31, qrC 4 [some 3, some 8], zc32, qkC 100 7, qkC 100 8, qkC 100 9, qkC 100 10, zc33, qkC 100 12, qkC 100 13, qkC 100 14, qkC 100 15, zc7, qkC 100 17, qkC 100 18, qkC 100 19, qkC 100 20, qkC 100 21, qkC 100 22, qkC 100 23, zc35, qkC 100 25, qkC 100 26, qkC 100 27, qkC 100 28, qkC 100 29, qkC 100 30, zc36, qkC 102 35, qkC 100 36, qjC 1 60, zc37, qkC 100 38, qkC 100 39, qkC 100 40, qkC 100 41, qkC 100 42, qkC 100 43, qkC 100 44, qkC 100 45, zc38, zc39, zc40, qkC 100 63, zc92, qkC 100 68, zc93, qkC 100 73, zc94, qkC 100 78, zc95, qkC 100 80, qkC 100 81, qkC 100 82, qkC 100 83, qkC 100 84, zc13, qjC 1 6, qjC 1 4, qrC 6 [none, none], qrC 7 [none, none]], [(0, [9, 10, 11, 12], []), (0, [4, 5, 6, 7], []), (16, [17, 18], [((.ofNat 0), []), ((.ofNat 0), [])])]), 0, 0)])
noncomputable def c23_0_e : List Ct := []
noncomputable def c23_0_pts : List PE := []
set_option maxRecDepth 100000 in
theorem c23_0_k : enCtF c23_0 c23_0_e (pkP (c23_0_pts ++ []) []) (none) ((atPc 22 (fZ16 [0, 2])), noM, 0, 4194304, 86) 3000 = true := by decide +kernel
set_option maxRecDepth 100000 in
theorem c23_0_v : ValidC PPk c23_0 := ct_ok fpk ⟨(atPc_ok (fZ16_ok [0, 2])), noM_ok⟩ (d := 0) (ext := []) (pts := c23_0_pts) (env := c23_0_e) rfl (fun _ h => (by cases h)) ext_nil (fun q h => (by cases h)) (enF c23_0_k) (fun _ h => (by cases h))

noncomputable def c151_0 : Ct := (151, 1, (34, (zt2 []), [((.ofNat 1), [(19, (.negSucc 0)), (20, (.negSucc 0)), (21, (.negSucc 0)), (22, (.negSucc 0))])], [qvR 0], zh48, [(2, [1], []), (1, [1], []), (17, [1], [((.ofNat 692), []), (sL 12), (sL 33)])]),
  [((34, [], [], [qvS 12], [zc46, qiC 0 [qgS 10, qgS 11, .inl ((.ofNat 0), []), qgS 13, qgS 14, qgS 15, qgS 16, qgS 17, qgA 5, qgN 1 0 3, qgS 18, qgA 2, qgN 1 1 1000, qgN 1 0 50, qgA 23, qgS 19, qgA 39, qgS 20, qgA 39, qgS 21, qgA 39, qgS 22, qgA 517, qgN 12 0 60, qgN 1 0 5, qgN 1 0 39, qgN 1 0 40, qgN 1 0 5, qgN 1 0 39, qgN 1 0 40, qgN 1 0 5, qgN 1 0 39, qgN 1 0 40, qgN 1 0 5, qgN 1 0 39, qgN 1 0 40, qgN 1 0 5, qgN 1 0 39, qgN 1 0 40, qgN 1 0 5, qgN 1 0 39, qgN 1 0 40, qgN 1 0 5, qgN 1 0 39, qgN 1 0 40, qgN 1 0 5, qgN 1 0 39, qgN 1 0 40, qgA 76, qgA 2, qgN 1 0 5, qgA 2, qgA 2, qgN 1 0 5, qgA 2, qgA 2, qgN 1 0 5, qgA 2, qgA 2, qgN 1 0 5, qgA 2, qgA 2, qgN 1 0 5, qgA 2, qgA 2, qgN 1 0 5, qgA 2, qgA 2, qgN 1 0 5, qgA 2, qgA 2, qgN 1 0 5, qgA 2, qgN 60 0 127, qgA 18], qkC 100 23, qkC 103 24, qkC 100 25, qkC 100 26, qkC 100 27, qjC 1 70, qjC 1 8, qkC 100 28, qkC 100 29, qkC 100 30, qkC 100 31, qkC 100 32, qjC 1 4], [(2, [1], []), (1, [1], []), (17, [1], [((.ofNat 692), []), ((.ofNat 0), []), ((.ofNat 0), [])])]), 0, 0)])
noncomputable def c151_0_e : List Ct := []
noncomputable def c151_0_pts : List PE := []
set_option maxRecDepth 100000 in
theorem c151_0_k : enCtF c151_0 c151_0_e (pkP (c151_0_pts ++ []) []) (none) ((atPc 14 (fZ17 0 692)), noM, 0, 16384, 34) 3000 = true := by decide +kernel
set_option maxRecDepth 100000 in
theorem c151_0_v : ValidC PPk c151_0 := ct_ok fpk ⟨(atPc_ok (fZ17_ok 0 692)), noM_ok⟩ (d := 0) (ext := []) (pts := c151_0_pts) (env := c151_0_e) rfl (fun _ h => (by cases h)) ext_nil (fun q h => (by cases h)) (enF c151_0_k) (fun _ h => (by cases h))

noncomputable def zh97 : AH := [zc12, zc31, qrC 4 [some 3, some 8], zc32, qkC 100 7, qkC 100 8, qkC 100 9, qkC 100 10, zc33, qkC 100 12, qkC 100 13, qkC 100 14, qkC 100 15, zc34, qkC 100 17, qkC 100 18, qkC 100 19, qkC 100 20, qkC 100 21, qiC 0 [qgA 8], qiC 0 [qgA 8], zc69, qkC 100 23, qkC 100 24, qkC 100 25, qkC 100 26, qkC 100 27, qkC 100 28, zc70, qkC 102 33, qkC 100 34, qjC 1 60, zc71, qkC 100 36, qkC 100 37, qkC 100 38, qkC 100 39, qkC 100 40, qkC 100 41, qkC 100 42, qkC 100 43, zc72, zc39, zc73, qkC 100 61, zc74, qkC 100 66, zc42, qkC 100 71, zc75, qkC 100 76, zc76, qkC 100 78, qkC 100 79, qkC 100 80, qkC 100 81, qkC 100 82, zc13, qjC 1 6, qjC 1 4, qrC 6 [none, none], qrC 7 [none, none]]
noncomputable def c24_0 : Ct := (24, 2, (86, (zt6 [qtA 83, qtA 84, qtA 85]), [], [qvR 0, qvS 83, qvS 84, qvS 85], zh97, [(0, [9, 10, 11, 12], []), (0, [4, 5, 6, 7], [])]),
  [((87, [(86, (.negSucc 1), (.ofNat 1))], [], [qvS 86], zh97, [(0, [9, 10, 11, 12], []), (0, [4, 5, 6, 7], [])]), 0, 0)])
noncomputable def c24_0_e : List Ct := [c12_0]
noncomputable def c24_0_pts : List PE := []
set_option maxRecDepth 100000 in
theorem c24_0_k : enCtF c24_0 c24_0_e (pkP (c24_0_pts ++ []) []) (none) noH 3000 = true := by decide +kernel
set_option maxRecDepth 100000 in
theorem c24_0_v : ValidC PPk c24_0 := ct_ok fpk noH_ok (d := 1) (ext := []) (pts := c24_0_pts) (env := c24_0_e) rfl (List.forall_mem_cons.mpr ⟨⟨c12_0_v, Nat.le_of_ble_eq_true rfl⟩, fun _ h => (by cases h)⟩) ext_nil (fun q h => (by cases h)) (enF c24_0_k) (fun _ h => (by cases h))

noncomputable def c152_0 : Ct := (152, 2, (37, (zt2 [qtA 33, qtA 34, qtA 35]), [((.ofNat 1), [(19, (.negSucc 0)), (20, (.negSucc 0)), (21, (.negSucc 0)), (22, (.negSucc 0))])], [qvR 0, qvS 33, qvS 34, qvS 35], zh48, [(2, [1], []), (1, [1], []), (17, [1], [((.ofNat 692), []), (sL 12), (sL 36)])]),
  [((38, [(37, (.negSucc 1), (.ofNat 1))], [], [qvS 37], zh48, [(2, [1], []), (1, [1], []), (17, [1], [((.ofNat 692), []), (sL 12), (sL 36)])]), 0, 0)])
noncomputable def c152_0_e : List Ct := [c145_0]
noncomputable def c152_0_pts : List PE := []
set_option maxRecDepth 100000 in
theorem c152_0_k : enCtF c152_0 c152_0_e (pkP (c152_0_pts ++ []) []) (none) noH 3000 = true := by decide +kernel
set_option maxRecDepth 100000 in
theorem c152_0_v : ValidC PPk c152_0 := ct_ok fpk noH_ok (d := 1) (ext := []) (pts := c152_0_pts) (env := c152_0_e) rfl (List.forall_mem_cons.mpr ⟨⟨c145_0_v, Nat.le_of_ble_eq_true rfl⟩, fun _ h => (by cases h)⟩) ext_nil (fun q h => (by cases h)) (enF c152_0_k) (fun _ h => (by cases h))

noncomputable def c25_0 : Ct := (25, 2, (87, (zt16 [qtA 85, qtA 86]), [], [qvR 0, qvS 85, qvS 86], zh96, [(0, [9, 10, 11, 12], []), (0, [4, 5, 6, 7], [])]),
  [((90, [(87, (.negSucc 1), (.ofNat 1)), qtA 88, qtA 89], [], [qvS 87], [zc12, qoC 1 [qvS 0, qvR 2, qvR 13, qvR 19, qvR 20, qvS 88, qvS 89, qvR 21, qvS 3, qvS 4, qvR 26, qvR 27, qvR 28, qvR 32, qvS 5, qvR 38, qvR 39, qvR 40], qrC 4 [some 3, some 8], zc32, qkC 100 7, qkC 100 8, qkC 100 9, qkC 100 10, zc33, qkC 100 12, qkC 100 13, qkC 100 14, qkC 100 15, zc34, qkC 100 17, qkC 100 18, qkC 100 19, qkC 100 20, qkC 100 21, qkC 100 22, qkC 100 23, zc35, qkC 100 25, qkC 100 26, qkC 100 27, qkC 100 28, qkC 100 29, qkC 100 30, zc36, qkC 102 35, qkC 100 36, qjC 1 60, zc37, qkC 100 38, qkC 100 39, qkC 100 40, qkC 100 41, qkC 100 42, qkC 100 43, qkC 100 44, qkC 100 45, zc38, zc39, zc40, qkC 100 63, zc92, qkC 100 68, zc93, qkC 100 73, zc94, qkC 100 78, zc95, qkC 100 80, qkC 100 81, qkC 100 82, qkC 100 83, qkC 100 84, zc13, qjC 1 6, qjC 1 4, qrC 6 [none, none], qrC 7 [none, none]], [(0, [9, 10, 11, 12], []), (0, [4, 5, 6, 7], [])]), 0, 0)])
noncomputable def c25_0_e : List Ct := [c12_0]
noncomputable def c25_0_pts : List PE := []
set_option maxRecDepth 100000 in
theorem c25_0_k : enCtF c25_0 c25_0_e (pkP (c25_0_pts ++ []) []) (none) noH 3000 = true := by decide +kernel
set_option maxRecDepth 100000 in
theorem c25_0_v : ValidC PPk c25_0 := ct_ok fpk noH_ok (d := 1) (ext := []) (pts := c25_0_pts) (env := c25_0_e) rfl (List.forall_mem_cons.mpr ⟨⟨c12_0_v, Nat.le_of_ble_eq_true rfl⟩, fun _ h => (by cases h)⟩) ext_nil (fun q h => (by cases h)) (enF c25_0_k) (fun _ h => (by cases h))

noncomputable def c153_0 : Ct := (153, 2, (36, (zt2 [qtA 33, qtA 34]), [((.ofNat 1), [(19, (.negSucc 0)), (20, (.negSucc 0)), (21, (.negSucc 0)), (22, (.negSucc 0))])], [qvR 0, qvS 33, qvS 34], zh48, [(2, [1], []), (1, [1], []), (17, [1], [((.ofNat 692), []), (sL 12), (sL 35)])]),
  [((37, [(36, (.negSucc 1), (.ofNat 1))], [], [qvS 36], zh48, [(2, [1], []), (1, [1], []), (17, [1], [((.ofNat 692), []), (sL 12), (sL 35)])]), 0, 0)])
noncomputable def c153_0_e : List Ct := [c145_0]
noncomputable def c153_0_pts : List PE := []
set_option maxRecDepth 100000 in
theorem c153_0_k : enCtF c153_0 c153_0_e (pkP (c153_0_pts ++ []) []) (none) noH 3000 = true := by decide +kernel
set_option maxRecDepth 100000 in
theorem c153_0_v : ValidC PPk c153_0 := ct_ok fpk noH_ok (d := 1) (ext := []) (pts := c153_0_pts) (env := c153_0_e) rfl (List.forall_mem_cons.mpr ⟨⟨c145_0_v, Nat.le_of_ble_eq_true rfl⟩, fun _ h => (by cases h)⟩) ext_nil (fun q h => (by cases h)) (enF c153_0_k) (fun _ h => (by cases h))

noncomputable def zc98 : AC := qoC 4 [qvS 0, qvR 1, qvR 2, qvR 3, qvR 4]
noncomputable def c27_0 : Ct := (27, 1, (5, [qtN 0 0 6, qtA 1, qtA 2, qtA 3, qtA 4], [], [qvR 0, qvS 1, qvS 2, qvS 3, qvS 4], [zc98, qiC 0 [qgA 6], qiC 0 [qgA 6], qiC 0 [qgA 6], qiC 0 [qgA 6]], []),
  [((6, [qtN 5 1 6], [], [], [qoC 4 [qvS 5, qvR 1, qvR 2, qvR 3, qvR 4], qiC 0 [qgA 6], qiC 0 [qgA 6], qiC 0 [qgA 6], qiC 0 [qgA 6]], []), 0, 0)])
noncomputable def c27_0_e : List Ct := []
noncomputable def c27_0_pts : List PE := []
set_option maxRecDepth 100000 in
theorem c27_0_k : enCtF c27_0 c27_0_e (pkP (c27_0_pts ++ []) []) (none) noH 3000 = true := by decide +kernel
set_option maxRecDepth 100000 in
theorem c27_0_v : ValidC PPk c27_0 := ct_ok fpk noH_ok (d := 0) (ext := []) (pts := c27_0_pts) (env := c27_0_e) rfl (fun _ h => (by cases h)) ext_nil (fun q h => (by cases h)) (enF c27_0_k) (fun _ h => (by cases h))

noncomputable def zt17 (r : TbL) : TbL := qtN 0 1 4 :: qtA 1 :: qtA 2 :: qtN 3 1 1000 :: qtN 4 0 50 :: qtN 5 0 10 :: qtN 6 0 60 :: qtN 11 0 60 :: qtN 16 0 8 :: qtN 24 0 6 :: qtN 27 0 60 :: qtA 28 :: qtN 29 0 60 :: qtN 30 0 60 :: qtN 33 0 8 :: qtA 42 :: qtA 43 :: qtA 44 :: qtA 45 :: qtA 46 :: qtA 47 :: qtN 48 0 3 :: qtA 49 :: qtA 50 :: qtA 51 :: qtA 52 :: qtN 53 0 1 :: qtA 54 :: qtA 55 :: qtA 56 :: qtA 57 :: qtA 58 :: qtA 60 :: qtA 61 :: qtA 62 :: qtA 63 :: qtA 65 :: qtA 66 :: qtA 67 :: qtA 68 :: qtA 70 :: qtA 71 :: qtA 72 :: qtA 73 :: qtA 75 :: r
noncomputable def zc99 : AC := qoC 5 [qvS 27, qvR 29, qvS 28, qvS 29, qvS 30, qvR 30, qvR 31]
noncomputable def zc100 : AC := qoC 6 [qvS 33, qvR 33, qvR 34, qvR 35, qvR 36, qvR 37]
noncomputable def zc101 : AC := qoC 7 [qvR 42, qvS 42, qvR 51, qvR 55, qvR 56, qvS 43, qvS 44, qvS 45, qvS 46, qvS 47, qvS 48, qvS 49, qvS 50, qvS 51, qvS 52, qvS 53, qvS 54]
noncomputable def zc102 : AC := qoC 8 [qvR 44, qvS 55, qvS 56, qvS 57, qvS 58]
noncomputable def zc103 : AC := qoC 8 [qvR 46, qvS 60, qvS 61, qvS 62, qvS 63]
noncomputable def zc104 : AC := qoC 8 [qvR 48, qvS 65, qvS 66, qvS 67, qvS 68]
noncomputable def zc105 : AC := qoC 8 [qvR 50, qvS 70, qvS 71, qvS 72, qvS 73]
noncomputable def c26_0 : Ct := (26, 2, (85, (zt17 [qtA 81, qtA 82, qtA 83, qtA 84]), [], [qvR 0, qvS 81, qvS 82, qvS 83, qvS 84], [zc12, zc31, qrC 4 [some 3, some 8], zc32, qkC 100 7, qkC 100 8, qkC 100 9, qkC 100 10, zc33, qkC 100 12, qkC 100 13, qkC 100 14, qkC 100 15, zc34, qkC 100 17, qkC 100 18, qkC 100 19, qkC 100 20, qkC 100 21, qkC 100 22, qkC 100 23, zc35, qiC 0 [qgA 6], qiC 0 [qgA 6], qiC 0 [qgA 6], qiC 0 [qgA 6], qkC 100 25, qkC 100 26, zc99, qkC 102 31, qkC 100 32, qjC 1 60, zc100, qkC 100 34, qkC 100 35, qkC 100 36, qkC 100 37, qkC 100 38, qkC 100 39, qkC 100 40, qkC 100 41, zc101, zc39, zc102, qkC 100 59, zc103, qkC 100 64, zc104, qkC 100 69, zc105, qkC 100 74, zc44, qkC 100 76, qkC 100 77, qkC 100 78, qkC 100 79, qkC 100 80, zc13, qjC 1 6, qjC 1 4, qrC 6 [none, none], qrC 7 [none, none]], [(0, [9, 10, 11, 12], []), (0, [4, 5, 6, 7], [])]),
  [((87, [(85, (.negSucc 3), (.ofNat 5)), qtN 86 0 6], [], [qvS 85], [zc12, zc31, qrC 4 [some 3, some 8], zc32, qkC 100 7, qkC 100 8, qkC 100 9, qkC 100 10, zc33, qkC 100 12, qkC 100 13, qkC 100 14, qkC 100 15, zc34, qkC 100 17, qkC 100 18, qkC 100 19, qkC 100 20, qkC 100 21, qkC 100 22, qkC 100 23, qoC 4 [qvS 86, qvR 22, qvR 23, qvR 24, qvR 25], qiC 0 [qgA 6], qiC 0 [qgA 6], qiC 0 [qgA 6], qiC 0 [qgA 6], qkC 100 25, qkC 100 26, zc99, qkC 102 31, qkC 100 32, qjC 1 60, zc100, qkC 100 34, qkC 100 35, qkC 100 36, qkC 100 37, qkC 100 38, qkC 100 39, qkC 100 40, qkC 100 41, zc101, zc39, zc102, qkC 100 59, zc103, qkC 100 64, zc104, qkC 100 69, zc105, qkC 100 74, zc44, qkC 100 76, qkC 100 77, qkC 100 78, qkC 100 79, qkC 100 80, zc13, qjC 1 6, qjC 1 4, qrC 6 [none, none], qrC 7 [none, none]], [(0, [9, 10, 11, 12], []), (0, [4, 5, 6, 7], [])]), 0, 0)])
noncomputable def c26_0_e : List Ct := [c12_0, c27_0]
noncomputable def c26_0_pts : List PE := []
set_option maxRecDepth 100000 in
theorem c26_0_k : enCtF c26_0 c26_0_e (pkP (c26_0_pts ++ []) []) (none) noH 3000 = true := by decide +kernel
set_option maxRecDepth 100000 in
theorem c26_0_v : ValidC PPk c26_0 := ct_ok fpk noH_ok (d := 1) (ext := []) (pts := c26_0_pts) (env := c26_0_e) rfl (List.forall_mem_cons.mpr ⟨⟨c12_0_v, Nat.le_of_ble_eq_true rfl⟩, List.forall_mem_cons.mpr ⟨⟨c27_0_v, Nat.le_of_ble_eq_true rfl⟩, fun _ h => (by cases h)⟩⟩) ext_nil (fun q h => (by cases h)) (enF c26_0_k) (fun _ h => (by cases h))

noncomputable def c154_0 : Ct := (154, 2, (38, (zt2 [qtA 33, qtA 34, qtA 35, qtA 36]), [((.ofNat 1), [(19, (.negSucc 0)), (20, (.negSucc 0)), (21, (.negSucc 0)), (22, (.negSucc 0))])], [qvR 0, qvS 33, qvS 34, qvS 35, qvS 36], zh48, [(2, [1], []), (1, [1], []), (17, [1], [((.ofNat 692), []), (sL 12), (sL 37)])]),
  [((40, [(38, (.negSucc 3), (.ofNat 5)), qtN 39 0 6], [], [qvS 38], [zc46, qiC 0 [qgS 10, qgS 11, qgS 12, qgS 39, qgS 14, qgS 15, qgS 16, qgS 17, qgA 5, qgN 1 0 3, qgS 18, qgA 2, qgN 1 1 1000, qgN 1 0 50, qgA 23, qgS 19, qgA 39, qgS 20, qgA 39, qgS 21, qgA 39, qgS 22, qgA 517, qgN 12 0 60, qgN 1 0 5, qgN 1 0 39, qgN 1 0 40, qgN 1 0 5, qgN 1 0 39, qgN 1 0 40, qgN 1 0 5, qgN 1 0 39, qgN 1 0 40, qgN 1 0 5, qgN 1 0 39, qgN 1 0 40, qgN 1 0 5, qgN 1 0 39, qgN 1 0 40, qgN 1 0 5, qgN 1 0 39, qgN 1 0 40, qgN 1 0 5, qgN 1 0 39, qgN 1 0 40, qgN 1 0 5, qgN 1 0 39, qgN 1 0 40, qgA 76, qgA 2, qgN 1 0 5, qgA 2, qgA 2, qgN 1 0 5, qgA 2, qgA 2, qgN 1 0 5, qgA 2, qgA 2, qgN 1 0 5, qgA 2, qgA 2, qgN 1 0 5, qgA 2, qgA 2, qgN 1 0 5, qgA 2, qgA 2, qgN 1 0 5, qgA 2, qgA 2, qgN 1 0 5, qgA 2, qgN 60 0 127, qgA 18], qkC 100 23, qkC 103 24, qkC 100 25, qkC 100 26, qkC 100 27, qjC 1 70, qjC 1 8, qkC 100 28, qkC 100 29, qkC 100 30, qkC 100 31, qkC 100 32, qjC 1 4], [(2, [1], []), (1, [1], []), (17, [1], [((.ofNat 692), []), (sL 12), (sL 37)])]), 0, 0)])
noncomputable def c154_0_e : List Ct := [c145_0]
noncomputable def c154_0_pts : List PE := []
set_option maxRecDepth 100000 in
theorem c154_0_k : enCtF c154_0 c154_0_e (pkP (c154_0_pts ++ []) []) (none) noH 3000 = true := by decide +kernel
set_option maxRecDepth 100000 in
theorem c154_0_v : ValidC PPk c154_0 := ct_ok fpk noH_ok (d := 1) (ext := []) (pts := c154_0_pts) (env := c154_0_e) rfl (List.forall_mem_cons.mpr ⟨⟨c145_0_v, Nat.le_of_ble_eq_true rfl⟩, fun _ h => (by cases h)⟩) ext_nil (fun q h => (by cases h)) (enF c154_0_k) (fun _ h => (by cases h))

noncomputable def c28_0 : Ct := (28, 2, (87, (zt16 [qtA 85, qtA 86]), [], [qvR 0, qvS 85, qvS 86], zh96, [(0, [9, 10, 11, 12], []), (0, [4, 5, 6, 7], [])]),
  [((90, [(87, (.negSucc 1), (.ofNat 1)), qtA 88, qtA 89], [], [qvS 87], [zc12, zc31, qrC 4 [some 3, some 8], zc32, qkC 100 7, qkC 100 8, qkC 100 9, qkC 100 10, zc33, qkC 100 12, qkC 100 13, qkC 100 14, qkC 100 15, zc34, qkC 100 17, qkC 100 18, qkC 100 19, qkC 100 20, qkC 100 21, qkC 100 22, qkC 100 23, zc35, qkC 100 25, qkC 100 26, qkC 100 27, qkC 100 28, qkC 100 29, qkC 100 30, zc36, qkC 102 35, qkC 100 36, qjC 1 60, zc37, qkC 100 38, qkC 100 39, qkC 100 40, qkC 100 41, qkC 100 42, qkC 100 43, qkC 100 44, qkC 100 45, qoC 7 [qvR 42, qvS 46, qvR 51, qvR 55, qvR 56, qvS 47, qvS 88, qvS 89, qvS 50, qvS 51, qvS 52, qvS 53, qvS 54, qvS 55, qvS 56, qvS 57, qvS 58], zc39, zc40, qkC 100 63, zc92, qkC 100 68, zc93, qkC 100 73, zc94, qkC 100 78, zc95, qkC 100 80, qkC 100 81, qkC 100 82, qkC 100 83, qkC 100 84, zc13, qjC 1 6, qjC 1 4, qrC 6 [none, none], qrC 7 [none, none]], [(0, [9, 10, 11, 12], []), (0, [4, 5, 6, 7], [])]), 0, 0)])
noncomputable def c28_0_e : List Ct := [c12_0]
noncomputable def c28_0_pts : List PE := []
set_option maxRecDepth 100000 in
theorem c28_0_k : enCtF c28_0 c28_0_e (pkP (c28_0_pts ++ []) []) (none) noH 3000 = true := by decide +kernel
set_option maxRecDepth 100000 in
theorem c28_0_v : ValidC PPk c28_0 := ct_ok fpk noH_ok (d := 1) (ext := []) (pts := c28_0_pts) (env := c28_0_e) rfl (List.forall_mem_cons.mpr ⟨⟨c12_0_v, Nat.le_of_ble_eq_true rfl⟩, fun _ h => (by cases h)⟩) ext_nil (fun q h => (by cases h)) (enF c28_0_k) (fun _ h => (by cases h))

noncomputable def c155_0 : Ct := (155, 2, (36, (zt2 [qtA 33, qtA 34]), [((.ofNat 1), [(19, (.negSucc 0)), (20, (.negSucc 0)), (21, (.negSucc 0)), (22, (.negSucc 0))])], [qvR 0, qvS 33, qvS 34], zh48, [(2, [1], []), (1, [1], []), (17, [1], [((.ofNat 692), []), (sL 12), (sL 35)])]),
  [((37, [(36, (.negSucc 1), (.ofNat 1))], [], [qvS 36], zh48, [(2, [1], []), (1, [1], []), (17, [1], [((.ofNat 692), []), (sL 12), (sL 35)])]), 0, 0)])
noncomputable def c155_0_e : List Ct := [c145_0]
noncomputable def c155_0_pts : List PE := []
set_option maxRecDepth 100000 in
theorem c155_0_k : enCtF c155_0 c155_0_e (pkP (c155_0_pts ++ []) []) (none) noH 3000 = true := by decide +kernel
set_option maxRecDepth 100000 in
theorem c155_0_v : ValidC PPk c155_0 := ct_ok fpk noH_ok (d := 1) (ext := []) (pts := c155_0_pts) (env := c155_0_e) rfl (List.forall_mem_cons.mpr ⟨⟨c145_0_v, Nat.le_of_ble_eq_true rfl⟩, fun _ h => (by cases h)⟩) ext_nil (fun q h => (by cases h)) (enF c155_0_k) (fun _ h => (by cases h))

noncomputable def c29_0 : Ct := (29, 2, (88, (zt16 [qtA 85, qtA 86, qtA 87]), [], [qvR 0, qvS 85, qvS 86, qvS 87], zh96, [(0, [9, 10, 11, 12], []), (0, [4, 5, 6, 7], [])]),
  [((92, [(88, (.negSucc 1), (.ofNat 1)), qtN 89 1 1000, qtN 90 0 50, qtA 91], [], [qvS 88], [zc12, qoC 1 [qvS 0, qvR 2, qvR 13, qvR 19, qvR 20, qvS 1, qvS 2, qvR 21, qvS 89, qvS 90, qvR 26, qvR 27, qvR 28, qvR 32, qvS 5, qvR 38, qvR 39, qvR 40], qrC 4 [some 3, some 8], zc32, qkC 100 7, qkC 100 8, qkC 100 9, qkC 100 10, zc33, qkC 100 12, qkC 100 13, qkC 100 14, qkC 100 15, zc34, qkC 100 17, qkC 100 18, qkC 100 19, qkC 100 20, qkC 100 21, qkC 100 22, qkC 100 23, zc35, qkC 100 25, qkC 100 26, qkC 100 27, qkC 100 28, qkC 100 29, qkC 100 30, zc36, qkC 102 35, qkC 100 36, qjC 1 60, zc37, qkC 100 38, qkC 100 39, qkC 100 40, qkC 100 41, qkC 100 42, qkC 100 43, qkC 100 44, qkC 100 45, qoC 7 [qvR 42, qvS 46, qvR 51, qvR 55, qvR 56, qvS 47, qvS 48, qvS 49, qvS 91, qvS 51, qvS 52, qvS 53, qvS 54, qvS 55, qvS 56, qvS 57, qvS 58], zc39, zc40, qkC 100 63, zc92, qkC 100 68, zc93, qkC 100 73, zc94, qkC 100 78, zc95, qkC 100 80, qkC 100 81, qkC 100 82, qkC 100 83, qkC 100 84, zc13, qjC 1 6, qjC 1 4, qrC 6 [none, none], qrC 7 [none, none]], [(0, [9, 10, 11, 12], []), (0, [4, 5, 6, 7], [])]), 0, 0)])
noncomputable def c29_0_e : List Ct := [c12_0]
noncomputable def c29_0_pts : List PE := []
set_option maxRecDepth 100000 in
theorem c29_0_k : enCtF c29_0 c29_0_e (pkP (c29_0_pts ++ []) []) (none) noH 3000 = true := by decide +kernel
set_option maxRecDepth 100000 in
theorem c29_0_v : ValidC PPk c29_0 := ct_ok fpk noH_ok (d := 1) (ext := []) (pts := c29_0_pts) (env := c29_0_e) rfl (List.forall_mem_cons.mpr ⟨⟨c12_0_v, Nat.le_of_ble_eq_true rfl⟩, fun _ h => (by cases h)⟩) ext_nil (fun q h => (by cases h)) (enF c29_0_k) (fun _ h => (by cases h))

noncomputable def c156_0 : Ct := (156, 2, (37, (zt2 [qtA 33, qtA 34, qtA 35]), [((.ofNat 1), [(19, (.negSucc 0)), (20, (.negSucc 0)), (21, (.negSucc 0)), (22, (.negSucc 0))])], [qvR 0, qvS 33, qvS 34, qvS 35], zh48, [(2, [1], []), (1, [1], []), (17, [1], [((.ofNat 692), []), (sL 12), (sL 36)])]),
  [((38, [(37, (.negSucc 1), (.ofNat 1))], [], [qvS 37], zh48, [(2, [1], []), (1, [1], []), (17, [1], [((.ofNat 692), []), (sL 12), (sL 36)])]), 0, 0)])
noncomputable def c156_0_e : List Ct := [c145_0]
noncomputable def c156_0_pts : List PE := []
set_option maxRecDepth 100000 in
theorem c156_0_k : enCtF c156_0 c156_0_e (pkP (c156_0_pts ++ []) []) (none) noH 3000 = true := by decide +kernel
set_option maxRecDepth 100000 in
theorem c156_0_v : ValidC PPk c156_0 := ct_ok fpk noH_ok (d := 1) (ext := []) (pts := c156_0_pts) (env := c156_0_e) rfl (List.forall_mem_cons.mpr ⟨⟨c145_0_v, Nat.le_of_ble_eq_true rfl⟩, fun _ h => (by cases h)⟩) ext_nil (fun q h => (by cases h)) (enF c156_0_k) (fun _ h => (by cases h))

noncomputable def zt18 (r : TbL) : TbL := qtN 0 1 4 :: qtA 1 :: qtA 2 :: qtN 3 1 1000 :: qtN 4 0 50 :: qtN 5 0 10 :: qtN 6 0 60 :: qtN 11 0 60 :: qtN 16 0 8 :: qtN 24 0 6 :: qtN 29 0 60 :: qtA 30 :: qtN 31 0 60 :: qtN 32 0 60 :: qtN 35 0 8 :: qtA 44 :: qtA 45 :: qtA 46 :: qtA 47 :: qtA 48 :: qtA 49 :: qtN 50 0 3 :: qtA 51 :: qtA 52 :: qtA 53 :: qtA 54 :: qtN 55 0 1 :: qtA 56 :: qtA 57 :: qtA 58 :: qtA 59 :: qtA 60 :: qtA 62 :: qtA 63 :: qtA 64 :: qtA 65 :: qtA 67 :: qtA 68 :: qtA 69 :: qtA 70 :: qtA 72 :: qtA 73 :: qtA 74 :: qtA 75 :: qtA 77 :: r
noncomputable def zh106 : AH := [zc12, zc31, qrC 4 [some 3, some 8], zc32, qkC 100 7, qkC 100 8, qkC 100 9, qkC 100 10, zc33, qkC 100 12, qkC 100 13, qkC 100 14, qkC 100 15, zc34, qkC 100 17, qkC 100 18, qkC 100 19, qkC 100 20, qkC 100 21, qkC 100 22, qkC 100 23, zc35, qkC 100 25, qkC 100 26, qkC 100 27, qkC 100 28, qiC 0 [qgA 4], qiC 0 [qgA 4], zc70, qkC 102 33, qkC 100 34, qjC 1 60, zc71, qkC 100 36, qkC 100 37, qkC 100 38, qkC 100 39, qkC 100 40, qkC 100 41, qkC 100 42, qkC 100 43, zc72, zc39, zc73, qkC 100 61, zc74, qkC 100 66, zc42, qkC 100 71, zc75, qkC 100 76, zc76, qkC 100 78, qkC 100 79, qkC 100 80, qkC 100 81, qkC 100 82, zc13, qjC 1 6, qjC 1 4, qrC 6 [none, none], qrC 7 [none, none]]
noncomputable def c30_0 : Ct := (30, 2, (86, (zt18 [qtA 83, qtA 84, qtA 85]), [], [qvR 0, qvS 83, qvS 84, qvS 85], zh106, [(0, [9, 10, 11, 12], []), (0, [4, 5, 6, 7], [])]),
  [((87, [(86, (.negSucc 1), (.ofNat 1))], [], [qvS 86], zh106, [(0, [9, 10, 11, 12], []), (0, [4, 5, 6, 7], [])]), 0, 0)])
noncomputable def c30_0_e : List Ct := [c12_0]
noncomputable def c30_0_pts : List PE := []
set_option maxRecDepth 100000 in
theorem c30_0_k : enCtF c30_0 c30_0_e (pkP (c30_0_pts ++ []) []) (none) noH 3000 = true := by decide +kernel
set_option maxRecDepth 100000 in
theorem c30_0_v : ValidC PPk c30_0 := ct_ok fpk noH_ok (d := 1) (ext := []) (pts := c30_0_pts) (env := c30_0_e) rfl (List.forall_mem_cons.mpr ⟨⟨c12_0_v, Nat.le_of_ble_eq_true rfl⟩, fun _ h => (by cases h)⟩) ext_nil (fun q h => (by cases h)) (enF c30_0_k) (fun _ h => (by cases h))

noncomputable def c157_0 : Ct := (157, 2, (37, (zt2 [qtA 33, qtA 34, qtA 35]), [((.ofNat 1), [(19, (.negSucc 0)), (20, (.negSucc 0)), (21, (.negSucc 0)), (22, (.negSucc 0))])], [qvR 0, qvS 33, qvS 34, qvS 35], zh48, [(2, [1], []), (1, [1], []), (17, [1], [((.ofNat 692), []), (sL 12), (sL 36)])]),
  [((38, [(37, (.negSucc 1), (.ofNat 1))], [], [qvS 37], zh48, [(2, [1], []), (1, [1], []), (17, [1], [((.ofNat 692), []), (sL 12), (sL 36)])]), 0, 0)])
noncomputable def c157_0_e : List Ct := [c145_0]
noncomputable def c157_0_pts : List PE := []
set_option maxRecDepth 100000 in
theorem c157_0_k : enCtF c157_0 c157_0_e (pkP (c157_0_pts ++ []) []) (none) noH 3000 = true := by decide +kernel
set_option maxRecDepth 100000 in
theorem c157_0_v : ValidC PPk c157_0 := ct_ok fpk noH_ok (d := 1) (ext := []) (pts := c157_0_pts) (env := c157_0_e) rfl (List.forall_mem_cons.mpr ⟨⟨c145_0_v, Nat.le_of_ble_eq_true rfl⟩, fun _ h => (by cases h)⟩) ext_nil (fun q h => (by cases h)) (enF c157_0_k) (fun _ h => (by cases h))

noncomputable def zc107 : AC := qoC 5 [qvS 0, qvR 1, qvS 1, qvS 2, qvS 3, qvR 2, qvR 3]
noncomputable def zc108 : AC := qoC 5 [qvS 0, qvR 1, qvS 1, qvS 5, qvS 3, qvR 2, qvR 3]
noncomputable def zh109 : AH := [zc108, qiC 2 [qgN 60 0 127], qkC 100 4, qjC 1 60]
noncomputable def zc110 : AC := qoC 5 [qvS 0, qvR 1, qvS 1, qvS 6, qvS 3, qvR 2, qvR 3]
noncomputable def c40_0 : Ct := (40, 1, (5, [qtN 0 0 60, qtA 1, qtN 2 0 60, qtN 3 0 60], [], [qvR 0], [zc107, qiC 2 [qgN 60 0 127], qkC 100 4, qjC 1 60], []),
  [((6, [qtN 5 0 60], [], [qvK (.negSucc 0)], zh109, []), 0, 0),
   ((7, [qtN 0 1 60, (1, (.negSucc 0), (.negSucc 0)), qtN 5 0 127, qtN 6 0 59], [((.ofNat 1), [(0, (.negSucc 0)), (6, (.ofNat 1))])], [qvS 5], [zc110, qiC 2 [qgN 60 0 127], qkC 100 4, qjC 1 60], []), 0, 0)])
noncomputable def c40_0_e : List Ct := []
noncomputable def c40_0_p0 : PE := (10, [0], (6, [qtN 0 0 60, (1, (.negSucc 0), (.negSucc 0)), qtN 2 0 60, qtN 3 0 60, qtN 5 0 60], [], [qvR 0], zh109, []), symsL 5 0, some ((.ofNat 121), [(5, (.negSucc 0))]), 0, 0)
noncomputable def c40_0_pts : List PE := [c40_0_p0]
set_option maxRecDepth 100000 in
theorem c40_0_k : enCtF c40_0 c40_0_e (pkP (c40_0_pts ++ []) [0]) (none) (noF, noM, 1024, 0, 5) 3000 = true := by decide +kernel
set_option maxRecDepth 100000 in
theorem c40_0_k0 : ptCtF c40_0 c40_0_e (pkP (c40_0_pts ++ []) [0]) (noF, noM, 1024, 0, 5) 3000 c40_0_p0 = true := by decide +kernel
set_option maxRecDepth 100000 in
theorem c40_0_v : ValidC PPk c40_0 := ct_ok fpk ⟨noF_ok, noM_ok⟩ (d := 0) (ext := []) (pts := c40_0_pts) (env := c40_0_e) rfl (fun _ h => (by cases h)) ext_nil (fun q h => (by cases h)) (enF c40_0_k) (List.forall_mem_cons.mpr ⟨⟨_, ptF c40_0_k0⟩, fun _ h => (by cases h)⟩)

noncomputable def zh111 : AH := [zc107, qkC 102 4, qkC 100 5, qjC 1 60]
noncomputable def c43_0 : Ct := (43, 1, (8, [qtN 0 0 60, qtA 1, qtN 2 0 60, qtN 3 0 60, qtA 6, qtA 7], [], [qvR 0, qvS 6, qvS 7], zh111, []),
  [((9, [qtA 8], [], [], [qoC 5 [qvS 0, qvR 1, qvS 8, qvS 2, qvS 3, qvR 2, qvR 3], qkC 102 4, qkC 100 5, qjC 1 60], []), 0, 0)])
noncomputable def c43_0_e : List Ct := []
noncomputable def c43_0_pts : List PE := []
set_option maxRecDepth 100000 in
theorem c43_0_k : enCtF c43_0 c43_0_e (pkP (c43_0_pts ++ []) []) (none) noH 3000 = true := by decide +kernel
set_option maxRecDepth 100000 in
theorem c43_0_v : ValidC PPk c43_0 := ct_ok fpk noH_ok (d := 0) (ext := []) (pts := c43_0_pts) (env := c43_0_e) rfl (fun _ h => (by cases h)) ext_nil (fun q h => (by cases h)) (enF c43_0_k) (fun _ h => (by cases h))

noncomputable def zh112 : AH := [qoC 5 [qvS 0, qvR 1, qvS 6, qvS 2, qvS 3, qvR 2, qvR 3], qkC 102 4, qkC 100 5, qjC 1 60]
noncomputable def c45_0 : Ct := (45, 2, (6, [qtN 0 0 60, qtA 1, qtN 2 0 60, qtN 3 0 60], [((.ofNat 1), [(0, (.negSucc 0)), (2, (.ofNat 1))])], [qvR 0, qvK (.ofNat 8)], zh111, []),
  [((7, [qtA 6], [], [], zh112, []), 0, 0)])
noncomputable def c45_0_e : List Ct := [c43_0]
noncomputable def c45_0_pts : List PE := []
set_option maxRecDepth 100000 in
theorem c45_0_k : enCtF c45_0 c45_0_e (pkP (c45_0_pts ++ []) []) (none) noH 3000 = true := by decide +kernel
set_option maxRecDepth 100000 in
theorem c45_0_v : ValidC PPk c45_0 := ct_ok fpk noH_ok (d := 1) (ext := []) (pts := c45_0_pts) (env := c45_0_e) rfl (List.forall_mem_cons.mpr ⟨⟨c43_0_v, Nat.le_of_ble_eq_true rfl⟩, fun _ h => (by cases h)⟩) ext_nil (fun q h => (by cases h)) (enF c45_0_k) (fun _ h => (by cases h))

noncomputable def c44_0 : Ct := (44, 1, (6, [qtN 0 0 60, qtA 1, qtN 2 0 60, qtN 3 0 60, qtA 5], [], [qvR 0, qvS 5], [zc107, qkC 102 4, qiC 0 [qgA 60], qjC 1 60], []),
  [((7, [qtN 6 1 60], [], [], [qoC 5 [qvS 0, qvR 1, qvS 1, qvS 2, qvS 6, qvR 2, qvR 3], qkC 102 4, qiC 0 [qgA 60], qjC 1 60], []), 0, 0)])
noncomputable def c44_0_e : List Ct := []
noncomputable def c44_0_pts : List PE := []
set_option maxRecDepth 100000 in
theorem c44_0_k : enCtF c44_0 c44_0_e (pkP (c44_0_pts ++ []) []) (none) noH 3000 = true := by decide +kernel
set_option maxRecDepth 100000 in
theorem c44_0_v : ValidC PPk c44_0 := ct_ok fpk noH_ok (d := 0) (ext := []) (pts := c44_0_pts) (env := c44_0_e) rfl (fun _ h => (by cases h)) ext_nil (fun q h => (by cases h)) (enF c44_0_k) (fun _ h => (by cases h))

noncomputable def zh113 : AH := [zc107, qiC 2 [qgN 60 0 127], qiC 0 [qgA 60], qjC 1 60]
noncomputable def zh114 : AH := [qoC 5 [qvS 0, qvR 1, qvS 4, qvS 5, qvS 6, qvR 2, qvR 3], qiC 2 [qgN 60 0 127], qiC 0 [qgA 60], qjC 1 60]
noncomputable def zh115 : AH := [zc108, qiC 2 [qgN 60 0 127], qiC 0 [qgA 60], qjC 1 60]
noncomputable def c42_0 : Ct := (42, 2, (4, [qtN 0 0 60, qtA 1, qtN 2 0 60, qtN 3 0 60], [], [qvR 0], zh113, []),
  [((7, [qtA 4, qtN 5 0 60, qtN 6 0 60], [], [], zh114, []), 0, 0)])
noncomputable def c42_0_e : List Ct := [c43_0, c44_0]
noncomputable def c42_0_p0 : PE := (7, [0, 1, 2], (6, [qtN 0 0 60, qtA 1, qtN 2 0 60, qtN 3 0 60, qtA 4, qtN 5 0 60], [], [qvR 0, qvS 2, qvS 4], zh115, []), symsL 4 0, some ((.ofNat 121), [(5, (.negSucc 0))]), 0, 0)
noncomputable def c42_0_pts : List PE := [c42_0_p0]
set_option maxRecDepth 100000 in
theorem c42_0_k : enCtF c42_0 c42_0_e (pkP (c42_0_pts ++ []) [0]) (none) (noF, noM, 128, 0, 4) 3000 = true := by decide +kernel
set_option maxRecDepth 100000 in
theorem c42_0_k0 : ptCtF c42_0 c42_0_e (pkP (c42_0_pts ++ []) [0]) (noF, noM, 128, 0, 4) 3000 c42_0_p0 = true := by decide +kernel
set_option maxRecDepth 100000 in
theorem c42_0_v : ValidC PPk c42_0 := ct_ok fpk ⟨noF_ok, noM_ok⟩ (d := 1) (ext := []) (pts := c42_0_pts) (env := c42_0_e) rfl (List.forall_mem_cons.mpr ⟨⟨c43_0_v, Nat.le_of_ble_eq_true rfl⟩, List.forall_mem_cons.mpr ⟨⟨c44_0_v, Nat.le_of_ble_eq_true rfl⟩, fun _ h => (by cases h)⟩⟩) ext_nil (fun q h => (by cases h)) (enF c42_0_k) (List.forall_mem_cons.mpr ⟨⟨_, ptF c42_0_k0⟩, fun _ h => (by cases h)⟩)

noncomputable def zh116 : AH := [qoC 5 [qvS 0, qvR 1, qvS 5, qvS 6, qvS 7, qvR 2, qvR 3], qiC 2 [qgN 60 0 127], qiC 0 [qgA 60], qjC 1 60]
noncomputable def c41_0 : Ct := (41, 3, (5, [qtN 0 0 60, qtA 1, qtN 2 0 60, qtN 3 0 60, qtA 4], [((.ofNat 1), [(0, (.negSucc 0)), (2, (.ofNat 1))])], [qvR 0, qvS 4, qvK (.ofNat 8)], zh113, []),
  [((8, [qtA 5, qtN 6 0 60, qtN 7 0 60], [], [], zh116, []), 0, 0)])
noncomputable def c41_0_e : List Ct := [c42_0, c43_0, c44_0, c45_0]
noncomputable def c41_0_pts : List PE := []
set_option maxRecDepth 100000 in
theorem c41_0_k : enCtF c41_0 c41_0_e (pkP (c41_0_pts ++ []) []) (none) noH 3000 = true := by decide +kernel
set_option maxRecDepth 100000 in
theorem c41_0_v : ValidC PPk c41_0 := ct_ok fpk noH_ok (d := 2) (ext := []) (pts := c41_0_pts) (env := c41_0_e) rfl (List.forall_mem_cons.mpr ⟨⟨c42_0_v, Nat.le_of_ble_eq_true rfl⟩, List.forall_mem_cons.mpr ⟨⟨c43_0_v, Nat.le_of_ble_eq_true rfl⟩, List.forall_mem_cons.mpr ⟨⟨c44_0_v, Nat.le_of_ble_eq_true rfl⟩, List.forall_mem_cons.mpr ⟨⟨c45_0_v, Nat.le_of_ble_eq_true rfl⟩, fun _ h => (by cases h)⟩⟩⟩⟩) ext_nil (fun q h => (by cases h)) (enF c41_0_k) (fun _ h => (by cases h))

noncomputable def c41_1 : Ct := (41, 2, (6, [qtN 0 0 60, qtA 1, qtN 2 0 60, qtN 3 0 60], [], [qvR 0, qvK (.negSucc 0), qvK (.ofNat 8)], zh111, []),
  [((7, [qtA 6], [], [], zh112, []), 0, 0)])
noncomputable def c41_1_e : List Ct := [c43_0]
noncomputable def c41_1_pts : List PE := []
set_option maxRecDepth 100000 in
theorem c41_1_k : enCtF c41_1 c41_1_e (pkP (c41_1_pts ++ []) []) (none) noH 3000 = true := by decide +kernel
set_option maxRecDepth 100000 in
theorem c41_1_v : ValidC PPk c41_1 := ct_ok fpk noH_ok (d := 1) (ext := []) (pts := c41_1_pts) (env := c41_1_e) rfl (List.forall_mem_cons.mpr ⟨⟨c43_0_v, Nat.le_of_ble_eq_true rfl⟩, fun _ h => (by cases h)⟩) ext_nil (fun q h => (by cases h)) (enF c41_1_k) (fun _ h => (by cases h))

noncomputable def zh117 : AH := [zc110, qiC 2 [qgN 60 0 127], qiC 0 [qgA 60], qjC 1 60]
noncomputable def zh118 : AH := [qoC 5 [qvS 0, qvR 1, qvS 7, qvS 8, qvS 9, qvR 2, qvR 3], qiC 2 [qgN 60 0 127], qiC 0 [qgA 60], qjC 1 60]
noncomputable def c39_0 : Ct := (39, 4, (4, [qtN 0 0 60, qtA 1, qtN 2 0 60, qtN 3 0 60], [], [qvR 0, qvK (.ofNat 8)], zh113, []),
  [((7, [qtA 4, qtN 5 0 60, qtN 6 0 60], [], [], zh114, []), 0, 0)])
noncomputable def c39_0_e : List Ct := [c40_0, c41_0, c41_1, c44_0]
noncomputable def c39_0_p0 : PE := (13, [0, 1, 2, 3, 4], (7, [qtN 0 1 60, (1, (.negSucc 0), (.negSucc 0)), qtN 2 0 60, qtN 3 0 60, qtN 4 0 127, qtN 5 0 60, qtN 6 0 59], [((.ofNat 1), [(0, (.negSucc 0)), (6, (.ofNat 1))])], [qvR 0, qvK (.ofNat 8), qvS 2, qvS 4, qvS 5], zh117, []), symsL 4 0, some ((.ofNat 182), [(5, (.negSucc 0))]), 0, 0)
noncomputable def c39_0_p1 : PE := (13, [0, 1, 2, 3, 4], (6, [qtN 0 0 60, qtA 1, qtN 2 0 60, qtN 3 0 60, qtN 4 0 60, qtN 5 0 60], [], [qvR 0, qvK (.ofNat 8), qvS 2, qvK (.negSucc 0), qvS 4], zh115, []), symsL 4 0, some ((.ofNat 182), [(4, (.negSucc 0))]), 0, 0)
noncomputable def c39_0_p2 : PE := (71, [0, 1, 2, 3, 4, 5], (10, [qtN 0 0 60, qtA 1, qtN 2 0 60, qtN 3 0 60, (4, (.negSucc 0), (.ofNat 127)), qtN 5 0 60, (6, (.negSucc 0), (.ofNat 59)), qtA 7, qtN 8 0 60, qtN 9 0 60], [], [qvR 0, qvK (.ofNat 8), qvS 2, qvS 4, qvS 5, qvS 6], zh118, []), symsL 4 0, some ((.ofNat 62), [(6, (.ofNat 1))]), 0, 0)
noncomputable def c39_0_pts : List PE := [c39_0_p0, c39_0_p1, c39_0_p2]
set_option maxRecDepth 100000 in
theorem c39_0_k : enCtF c39_0 c39_0_e (pkP (c39_0_pts ++ []) [1, 0]) (none) (noF, noM, 2361183241434822615040, 0, 4) 3000 = true := by decide +kernel
set_option maxRecDepth 100000 in
theorem c39_0_k0 : ptCtF c39_0 c39_0_e (pkP (c39_0_pts ++ []) [2, 1, 0]) (noF, noM, 2361183241434822615040, 0, 4) 3000 c39_0_p0 = true := by decide +kernel
set_option maxRecDepth 100000 in
theorem c39_0_k1 : ptCtF c39_0 c39_0_e (pkP (c39_0_pts ++ []) [2]) (noF, noM, 2361183241434822615040, 0, 4) 3000 c39_0_p1 = true := by decide +kernel
set_option maxRecDepth 100000 in
theorem c39_0_k2 : ptCtF c39_0 c39_0_e (pkP (c39_0_pts ++ []) [2]) (noF, noM, 2361183241434822615040, 0, 4) 3000 c39_0_p2 = true := by decide +kernel
set_option maxRecDepth 100000 in
theorem c39_0_v : ValidC PPk c39_0 := ct_ok fpk ⟨noF_ok, noM_ok⟩ (d := 3) (ext := []) (pts := c39_0_pts) (env := c39_0_e) rfl (List.forall_mem_cons.mpr ⟨⟨c40_0_v, Nat.le_of_ble_eq_true rfl⟩, List.forall_mem_cons.mpr ⟨⟨c41_0_v, Nat.le_of_ble_eq_true rfl⟩, List.forall_mem_cons.mpr ⟨⟨c41_1_v, Nat.le_of_ble_eq_true rfl⟩, List.forall_mem_cons.mpr ⟨⟨c44_0_v, Nat.le_of_ble_eq_true rfl⟩, fun _ h => (by cases h)⟩⟩⟩⟩) ext_nil (fun q h => (by cases h)) (enF c39_0_k) (List.forall_mem_cons.mpr ⟨⟨_, ptF c39_0_k0⟩, List.forall_mem_cons.mpr ⟨⟨_, ptF c39_0_k1⟩, List.forall_mem_cons.mpr ⟨⟨_, ptF c39_0_k2⟩, fun _ h => (by cases h)⟩⟩⟩)

noncomputable def zt19 (r : TbL) : TbL := qtN 0 0 60 :: qtA 1 :: qtN 2 0 60 :: qtN 3 0 60 :: qtA 4 :: qtN 5 0 60 :: qtN 6 0 60 :: r
noncomputable def zh119 : AH := [qoC 5 [qvS 0, qvR 1, qvS 6, qvS 7, qvS 8, qvR 2, qvR 3], qiC 2 [qgN 60 0 127], qiC 0 [qgA 60], qjC 1 60]
noncomputable def c38_0 : Ct := (38, 5, (4, [qtN 0 0 60, qtA 1, qtN 2 0 60, qtN 3 0 60], [], [qvR 0, qvK (.ofNat 8)], zh113, []),
  [((7, [qtA 4, qtN 5 0 60, qtN 6 0 60], [], [], zh114, []), 0, 0)])
noncomputable def c38_0_e : List Ct := [c39_0, c40_0, c44_0]
noncomputable def c38_0_p0 : PE := (7, [0, 1, 2], (7, (zt19 []), [], [qvR 0, qvK (.ofNat 8), qvK (.ofNat 0)], zh114, []), symsL 4 0, some ((.ofNat 121), []), 0, 0)
noncomputable def c38_0_p1 : PE := (7, [0, 1, 2, 3], (9, [qtN 0 1 60, qtA 1, qtN 2 0 60, qtN 3 0 60, qtN 4 1 60, qtN 5 42 47, qtA 6, qtN 7 0 60, qtN 8 1 60], [], [qvR 0, qvK (.ofNat 8), qvS 4, qvS 5], zh119, []), symsL 4 0, some ((.ofNat 121), [(4, (.negSucc 0))]), 0, 0)
noncomputable def c38_0_pts : List PE := [c38_0_p0, c38_0_p1]
set_option maxRecDepth 100000 in
theorem c38_0_k : enCtF c38_0 c38_0_e (pkP (c38_0_pts ++ []) [0]) (none) (noF, noM, 128, 0, 4) 3000 = true := by decide +kernel
set_option maxRecDepth 100000 in
theorem c38_0_k0 : ptCtF c38_0 c38_0_e (pkP (c38_0_pts ++ []) [1]) (noF, noM, 128, 0, 4) 3000 c38_0_p0 = true := by decide +kernel
set_option maxRecDepth 100000 in
theorem c38_0_k1 : ptCtF c38_0 c38_0_e (pkP (c38_0_pts ++ []) [1]) (noF, noM, 128, 0, 4) 3000 c38_0_p1 = true := by decide +kernel
set_option maxRecDepth 100000 in
theorem c38_0_v : ValidC PPk c38_0 := ct_ok fpk ⟨noF_ok, noM_ok⟩ (d := 4) (ext := []) (pts := c38_0_pts) (env := c38_0_e) rfl (List.forall_mem_cons.mpr ⟨⟨c39_0_v, Nat.le_of_ble_eq_true rfl⟩, List.forall_mem_cons.mpr ⟨⟨c40_0_v, Nat.le_of_ble_eq_true rfl⟩, List.forall_mem_cons.mpr ⟨⟨c44_0_v, Nat.le_of_ble_eq_true rfl⟩, fun _ h => (by cases h)⟩⟩⟩) ext_nil (fun q h => (by cases h)) (enF c38_0_k) (List.forall_mem_cons.mpr ⟨⟨_, ptF c38_0_k0⟩, List.forall_mem_cons.mpr ⟨⟨_, ptF c38_0_k1⟩, fun _ h => (by cases h)⟩⟩)

noncomputable def c37_0 : Ct := (37, 6, (4, [qtN 0 0 60, qtA 1, qtN 2 0 60, qtN 3 0 60], [], [qvR 0, qvK (.ofNat 8)], zh113, []),
  [((7, [qtA 4, qtN 5 0 60, qtN 6 0 60], [], [], zh114, []), 0, 0)])
noncomputable def c37_0_e : List Ct := [c38_0, c40_0, c44_0]
noncomputable def c37_0_p0 : PE := (7, [0, 1, 2], (7, (zt19 []), [], [qvR 0, qvK (.ofNat 8), qvK (.ofNat 0)], zh114, []), symsL 4 0, some ((.ofNat 121), []), 0, 0)
noncomputable def c37_0_p1 : PE := (7, [0, 1, 2, 3], (9, [qtN 0 1 60, qtA 1, qtN 2 0 60, qtN 3 0 60, qtN 4 1 60, qtN 5 43 45, qtA 6, qtN 7 0 60, qtN 8 1 60], [], [qvR 0, qvK (.ofNat 8), qvS 4, qvS 5], zh119, []), symsL 4 0, some ((.ofNat 121), [(4, (.negSucc 0))]), 0, 0)
noncomputable def c37_0_pts : List PE := [c37_0_p0, c37_0_p1]
set_option maxRecDepth 100000 in
theorem c37_0_k : enCtF c37_0 c37_0_e (pkP (c37_0_pts ++ []) [0]) (none) (noF, noM, 128, 0, 4) 3000 = true := by decide +kernel
set_option maxRecDepth 100000 in
theorem c37_0_k0 : ptCtF c37_0 c37_0_e (pkP (c37_0_pts ++ []) [1]) (noF, noM, 128, 0, 4) 3000 c37_0_p0 = true := by decide +kernel
set_option maxRecDepth 100000 in
theorem c37_0_k1 : ptCtF c37_0 c37_0_e (pkP (c37_0_pts ++ []) [1]) (noF, noM, 128, 0, 4) 3000 c37_0_p1 = true := by decide +kernel
set_option maxRecDepth 100000 in
theorem c37_0_v : ValidC PPk c37_0 := ct_ok fpk ⟨noF_ok, noM_ok⟩ (d := 5) (ext := []) (pts := c37_0_pts) (env := c37_0_e) rfl (List.forall_mem_cons.mpr ⟨⟨c38_0_v, Nat.le_of_ble_eq_true rfl⟩, List.forall_mem_cons.mpr ⟨⟨c40_0_v, Nat.le_of_ble_eq_true rfl⟩, List.forall_mem_cons.mpr ⟨⟨c44_0_v, Nat.le_of_ble_eq_true rfl⟩, fun _ h => (by cases h)⟩⟩⟩) ext_nil (fun q h => (by cases h)) (enF c37_0_k) (List.forall_mem_cons.mpr ⟨⟨_, ptF c37_0_k0⟩, List.forall_mem_cons.mpr ⟨⟨_, ptF c37_0_k1⟩, fun _ h => (by cases h)⟩⟩)

noncomputable def c36_0 : Ct := (36, 7, (4, [qtN 0 0 60, qtA 1, qtN 2 0 60, qtN 3 0 60], [], [qvR 0, qvK (.ofNat 8)], zh113, []),
  [((7, [qtA 4, qtN 5 0 60, qtN 6 0 60], [], [], zh114, []), 0, 0)])
noncomputable def c36_0_e : List Ct := [c37_0, c40_0, c44_0]
noncomputable def c36_0_pts : List PE := []
set_option maxRecDepth 100000 in
theorem c36_0_k : enCtF c36_0 c36_0_e (pkP (c36_0_pts ++ []) []) (none) noH 3000 = true := by decide +kernel
set_option maxRecDepth 100000 in
theorem c36_0_v : ValidC PPk c36_0 := ct_ok fpk noH_ok (d := 6) (ext := []) (pts := c36_0_pts) (env := c36_0_e) rfl (List.forall_mem_cons.mpr ⟨⟨c37_0_v, Nat.le_of_ble_eq_true rfl⟩, List.forall_mem_cons.mpr ⟨⟨c40_0_v, Nat.le_of_ble_eq_true rfl⟩, List.forall_mem_cons.mpr ⟨⟨c44_0_v, Nat.le_of_ble_eq_true rfl⟩, fun _ h => (by cases h)⟩⟩⟩) ext_nil (fun q h => (by cases h)) (enF c36_0_k) (fun _ h => (by cases h))

noncomputable def c35_0 : Ct := (35, 8, (4, [qtN 0 0 60, qtA 1, qtN 2 0 60, qtN 3 0 60], [], [qvR 0, qvK (.ofNat 8)], zh113, []),
  [((7, [qtA 4, qtN 5 0 60, qtN 6 0 60], [], [], zh114, []), 0, 0)])
noncomputable def c35_0_e : List Ct := [c36_0, c40_0, c44_0]
noncomputable def c35_0_p0 : PE := (7, [0, 1, 2], (8, [qtN 0 0 60, qtA 1, qtN 2 0 60, qtN 3 0 60, qtN 4 0 60, qtA 5, qtN 6 0 60, qtN 7 0 60], [], [qvR 0, qvK (.ofNat 8), qvS 4], zh116, []), symsL 4 0, some ((.ofNat 121), [(4, (.negSucc 0))]), 0, 0)
noncomputable def c35_0_pts : List PE := [c35_0_p0]
set_option maxRecDepth 100000 in
theorem c35_0_k : enCtF c35_0 c35_0_e (pkP (c35_0_pts ++ []) [0]) (none) (noF, noM, 128, 0, 4) 3000 = true := by decide +kernel
set_option maxRecDepth 100000 in
theorem c35_0_k0 : ptCtF c35_0 c35_0_e (pkP (c35_0_pts ++ []) [0]) (noF, noM, 128, 0, 4) 3000 c35_0_p0 = true := by decide +kernel
set_option maxRecDepth 100000 in
theorem c35_0_v : ValidC PPk c35_0 := ct_ok fpk ⟨noF_ok, noM_ok⟩ (d := 7) (ext := []) (pts := c35_0_pts) (env := c35_0_e) rfl (List.forall_mem_cons.mpr ⟨⟨c36_0_v, Nat.le_of_ble_eq_true rfl⟩, List.forall_mem_cons.mpr ⟨⟨c40_0_v, Nat.le_of_ble_eq_true rfl⟩, List.forall_mem_cons.mpr ⟨⟨c44_0_v, Nat.le_of_ble_eq_true rfl⟩, fun _ h => (by cases h)⟩⟩⟩) ext_nil (fun q h => (by cases h)) (enF c35_0_k) (List.forall_mem_cons.mpr ⟨⟨_, ptF c35_0_k0⟩, fun _ h => (by cases h)⟩)

noncomputable def c34_0 : Ct := (34, 9, (4, [qtN 0 0 60, qtA 1, qtN 2 0 60, qtN 3 0 60], [], [qvR 0, qvK (.ofNat 8)], zh113, []),
  [((7, [qtA 4, qtN 5 0 60, qtN 6 0 60], [], [], zh114, []), 0, 0)])
noncomputable def c34_0_e : List Ct := [c35_0, c40_0, c44_0]
noncomputable def c34_0_p0 : PE := (7, [0, 1, 2], (8, [qtN 0 0 60, qtA 1, qtN 2 0 60, qtN 3 0 60, qtN 4 0 60, qtA 5, qtN 6 0 60, qtN 7 0 60], [], [qvR 0, qvK (.ofNat 8), qvS 4], zh116, []), symsL 4 0, some ((.ofNat 121), [(4, (.negSucc 0))]), 0, 0)
noncomputable def c34_0_pts : List PE := [c34_0_p0]
set_option maxRecDepth 100000 in
theorem c34_0_k : enCtF c34_0 c34_0_e (pkP (c34_0_pts ++ []) [0]) (none) (noF, noM, 128, 0, 4) 3000 = true := by decide +kernel
set_option maxRecDepth 100000 in
theorem c34_0_k0 : ptCtF c34_0 c34_0_e (pkP (c34_0_pts ++ []) [0]) (noF, noM, 128, 0, 4) 3000 c34_0_p0 = true := by decide +kernel
set_option maxRecDepth 100000 in
theorem c34_0_v : ValidC PPk c34_0 := ct_ok fpk ⟨noF_ok, noM_ok⟩ (d := 8) (ext := []) (pts := c34_0_pts) (env := c34_0_e) rfl (List.forall_mem_cons.mpr ⟨⟨c35_0_v, Nat.le_of_ble_eq_true rfl⟩, List.forall_mem_cons.mpr ⟨⟨c40_0_v, Nat.le_of_ble_eq_true rfl⟩, List.forall_mem_cons.mpr ⟨⟨c44_0_v, Nat.le_of_ble_eq_true rfl⟩, fun _ h => (by cases h)⟩⟩⟩) ext_nil (fun q h => (by cases h)) (enF c34_0_k) (List.forall_mem_cons.mpr ⟨⟨_, ptF c34_0_k0⟩, fun _ h => (by cases h)⟩)

noncomputable def c45_1 : Ct := (45, 10, (4, [qtN 0 0 60, qtA 1, qtN 2 0 60, qtN 3 0 60], [((.ofNat 1), [(0, (.negSucc 0)), (2, (.ofNat 1))])], [qvR 0, qvK (.ofNat 7)], zh113, []),
  [((7, [qtA 4, qtN 5 0 60, qtN 6 0 60], [], [], zh114, []), 0, 0)])
noncomputable def c45_1_e : List Ct := [c34_0, c40_0, c43_0]
noncomputable def c45_1_pts : List PE := []
set_option maxRecDepth 100000 in
theorem c45_1_k : enCtF c45_1 c45_1_e (pkP (c45_1_pts ++ []) []) (none) noH 3000 = true := by decide +kernel
set_option maxRecDepth 100000 in
theorem c45_1_v : ValidC PPk c45_1 := ct_ok fpk noH_ok (d := 9) (ext := []) (pts := c45_1_pts) (env := c45_1_e) rfl (List.forall_mem_cons.mpr ⟨⟨c34_0_v, Nat.le_of_ble_eq_true rfl⟩, List.forall_mem_cons.mpr ⟨⟨c40_0_v, Nat.le_of_ble_eq_true rfl⟩, List.forall_mem_cons.mpr ⟨⟨c43_0_v, Nat.le_of_ble_eq_true rfl⟩, fun _ h => (by cases h)⟩⟩⟩) ext_nil (fun q h => (by cases h)) (enF c45_1_k) (fun _ h => (by cases h))

noncomputable def c41_2 : Ct := (41, 11, (5, [qtN 0 0 60, qtA 1, qtN 2 0 60, qtN 3 0 60, qtA 4], [((.ofNat 1), [(0, (.negSucc 0)), (2, (.ofNat 1))])], [qvR 0, qvS 4, qvK (.ofNat 7)], zh113, []),
  [((8, [qtA 5, qtN 6 0 60, qtN 7 0 60], [], [], zh116, []), 0, 0)])
noncomputable def c41_2_e : List Ct := [c42_0, c43_0, c44_0, c45_1]
noncomputable def c41_2_pts : List PE := []
set_option maxRecDepth 100000 in
theorem c41_2_k : enCtF c41_2 c41_2_e (pkP (c41_2_pts ++ []) []) (none) noH 3000 = true := by decide +kernel
set_option maxRecDepth 100000 in
theorem c41_2_v : ValidC PPk c41_2 := ct_ok fpk noH_ok (d := 10) (ext := []) (pts := c41_2_pts) (env := c41_2_e) rfl (List.forall_mem_cons.mpr ⟨⟨c42_0_v, Nat.le_of_ble_eq_true rfl⟩, List.forall_mem_cons.mpr ⟨⟨c43_0_v, Nat.le_of_ble_eq_true rfl⟩, List.forall_mem_cons.mpr ⟨⟨c44_0_v, Nat.le_of_ble_eq_true rfl⟩, List.forall_mem_cons.mpr ⟨⟨c45_1_v, Nat.le_of_ble_eq_true rfl⟩, fun _ h => (by cases h)⟩⟩⟩⟩) ext_nil (fun q h => (by cases h)) (enF c41_2_k) (fun _ h => (by cases h))

noncomputable def c41_3 : Ct := (41, 2, (6, [qtN 0 0 60, qtA 1, qtN 2 0 60, qtN 3 0 60], [], [qvR 0, qvK (.negSucc 0), qvK (.ofNat 7)], zh111, []),
  [((7, [qtA 6], [], [], zh112, []), 0, 0)])
noncomputable def c41_3_e : List Ct := [c43_0]
noncomputable def c41_3_pts : List PE := []
set_option maxRecDepth 100000 in
theorem c41_3_k : enCtF c41_3 c41_3_e (pkP (c41_3_pts ++ []) []) (none) noH 3000 = true := by decide +kernel
set_option maxRecDepth 100000 in
theorem c41_3_v : ValidC PPk c41_3 := ct_ok fpk noH_ok (d := 1) (ext := []) (pts := c41_3_pts) (env := c41_3_e) rfl (List.forall_mem_cons.mpr ⟨⟨c43_0_v, Nat.le_of_ble_eq_true rfl⟩, fun _ h => (by cases h)⟩) ext_nil (fun q h => (by cases h)) (enF c41_3_k) (fun _ h => (by cases h))

noncomputable def c39_1 : Ct := (39, 12, (4, [qtN 0 0 60, qtA 1, qtN 2 0 60, qtN 3 0 60], [], [qvR 0, qvK (.ofNat 7)], zh113, []),
  [((7, [qtA 4, qtN 5 0 60, qtN 6 0 60], [], [], zh114, []), 0, 0)])
noncomputable def c39_1_e : List Ct := [c40_0, c41_2, c41_3, c44_0]
noncomputable def c39_1_p0 : PE := (13, [0, 1, 2, 3, 4], (7, [qtN 0 1 60, (1, (.negSucc 0), (.negSucc 0)), qtN 2 0 60, qtN 3 0 60, qtN 4 0 127, qtN 5 0 60, qtN 6 0 59], [((.ofNat 1), [(0, (.negSucc 0)), (6, (.ofNat 1))])], [qvR 0, qvK (.ofNat 7), qvS 2, qvS 4, qvS 5], zh117, []), symsL 4 0, some ((.ofNat 182), [(5, (.negSucc 0))]), 0, 0)
noncomputable def c39_1_p1 : PE := (13, [0, 1, 2, 3, 4], (6, [qtN 0 0 60, qtA 1, qtN 2 0 60, qtN 3 0 60, qtN 4 0 60, qtN 5 0 60], [], [qvR 0, qvK (.ofNat 7), qvS 2, qvK (.negSucc 0), qvS 4], zh115, []), symsL 4 0, some ((.ofNat 182), [(4, (.negSucc 0))]), 0, 0)
noncomputable def c39_1_p2 : PE := (71, [0, 1, 2, 3, 4, 5], (10, [qtN 0 0 60, qtA 1, qtN 2 0 60, qtN 3 0 60, (4, (.negSucc 0), (.ofNat 127)), qtN 5 0 60, (6, (.negSucc 0), (.ofNat 59)), qtA 7, qtN 8 0 60, qtN 9 0 60], [], [qvR 0, qvK (.ofNat 7), qvS 2, qvS 4, qvS 5, qvS 6], zh118, []), symsL 4 0, some ((.ofNat 62), [(6, (.ofNat 1))]), 0, 0)
noncomputable def c39_1_pts : List PE := [c39_1_p0, c39_1_p1, c39_1_p2]
set_option maxRecDepth 100000 in
theorem c39_1_k : enCtF c39_1 c39_1_e (pkP (c39_1_pts ++ []) [1, 0]) (none) (noF, noM, 2361183241434822615040, 0, 4) 3000 = true := by decide +kernel
set_option maxRecDepth 100000 in
theorem c39_1_k0 : ptCtF c39_1 c39_1_e (pkP (c39_1_pts ++ []) [2, 1, 0]) (noF, noM, 2361183241434822615040, 0, 4) 3000 c39_1_p0 = true := by decide +kernel
set_option maxRecDepth 100000 in
theorem c39_1_k1 : ptCtF c39_1 c39_1_e (pkP (c39_1_pts ++ []) [2]) (noF, noM, 2361183241434822615040, 0, 4) 3000 c39_1_p1 = true := by decide +kernel
set_option maxRecDepth 100000 in
theorem c39_1_k2 : ptCtF c39_1 c39_1_e (pkP (c39_1_pts ++ []) [2]) (noF, noM, 2361183241434822615040, 0, 4) 3000 c39_1_p2 = true := by decide +kernel
set_option maxRecDepth 100000 in
theorem c39_1_v : ValidC PPk c39_1 := ct_ok fpk ⟨noF_ok, noM_ok⟩ (d := 11) (ext := []) (pts := c39_1_pts) (env := c39_1_e) rfl (List.forall_mem_cons.mpr ⟨⟨c40_0_v, Nat.le_of_ble_eq_true rfl⟩, List.forall_mem_cons.mpr ⟨⟨c41_2_v, Nat.le_of_ble_eq_true rfl⟩, List.forall_mem_cons.mpr ⟨⟨c41_3_v, Nat.le_of_ble_eq_true rfl⟩, List.forall_mem_cons.mpr ⟨⟨c44_0_v, Nat.le_of_ble_eq_true rfl⟩, fun _ h => (by cases h)⟩⟩⟩⟩) ext_nil (fun q h => (by cases h)) (enF c39_1_k) (List.forall_mem_cons.mpr ⟨⟨_, ptF c39_1_k0⟩, List.forall_mem_cons.mpr ⟨⟨_, ptF c39_1_k1⟩, List.forall_mem_cons.mpr ⟨⟨_, ptF c39_1_k2⟩, fun _ h => (by cases h)⟩⟩⟩)

noncomputable def c38_1 : Ct := (38, 13, (4, [qtN 0 0 60, qtA 1, qtN 2 0 60, qtN 3 0 60], [], [qvR 0, qvK (.ofNat 7)], zh113, []),
  [((7, [qtA 4, qtN 5 0 60, qtN 6 0 60], [], [], zh114, []), 0, 0)])
noncomputable def c38_1_e : List Ct := [c39_1, c40_0, c44_0]
noncomputable def c38_1_p0 : PE := (7, [0, 1, 2], (7, (zt19 []), [], [qvR 0, qvK (.ofNat 7), qvK (.ofNat 0)], zh114, []), symsL 4 0, some ((.ofNat 121), []), 0, 0)
noncomputable def c38_1_p1 : PE := (7, [0, 1, 2, 3], (9, [qtN 0 1 60, qtA 1, qtN 2 0 60, qtN 3 0 60, qtN 4 1 60, qtN 5 42 47, qtA 6, qtN 7 0 60, qtN 8 1 60], [], [qvR 0, qvK (.ofNat 7), qvS 4, qvS 5], zh119, []), symsL 4 0, some ((.ofNat 121), [(4, (.negSucc 0))]), 0, 0)
noncomputable def c38_1_pts : List PE := [c38_1_p0, c38_1_p1]
set_option maxRecDepth 100000 in
theorem c38_1_k : enCtF c38_1 c38_1_e (pkP (c38_1_pts ++ []) [0]) (none) (noF, noM, 128, 0, 4) 3000 = true := by decide +kernel
set_option maxRecDepth 100000 in
theorem c38_1_k0 : ptCtF c38_1 c38_1_e (pkP (c38_1_pts ++ []) [1]) (noF, noM, 128, 0, 4) 3000 c38_1_p0 = true := by decide +kernel
set_option maxRecDepth 100000 in
theorem c38_1_k1 : ptCtF c38_1 c38_1_e (pkP (c38_1_pts ++ []) [1]) (noF, noM, 128, 0, 4) 3000 c38_1_p1 = true := by decide +kernel
set_option maxRecDepth 100000 in
theorem c38_1_v : ValidC PPk c38_1 := ct_ok fpk ⟨noF_ok, noM_ok⟩ (d := 12) (ext := []) (pts := c38_1_pts) (env := c38_1_e) rfl (List.forall_mem_cons.mpr ⟨⟨c39_1_v, Nat.le_of_ble_eq_true rfl⟩, List.forall_mem_cons.mpr ⟨⟨c40_0_v, Nat.le_of_ble_eq_true rfl⟩, List.forall_mem_cons.mpr ⟨⟨c44_0_v, Nat.le_of_ble_eq_true rfl⟩, fun _ h => (by cases h)⟩⟩⟩) ext_nil (fun q h => (by cases h)) (enF c38_1_k) (List.forall_mem_cons.mpr ⟨⟨_, ptF c38_1_k0⟩, List.forall_mem_cons.mpr ⟨⟨_, ptF c38_1_k1⟩, fun _ h => (by cases h)⟩⟩)

noncomputable def c37_1 : Ct := (37, 14, (4, [qtN 0 0 60, qtA 1, qtN 2 0 60, qtN 3 0 60], [], [qvR 0, qvK (.ofNat 7)], zh113, []),
  [((7, [qtA 4, qtN 5 0 60, qtN 6 0 60], [], [], zh114, []), 0, 0)])
noncomputable def c37_1_e : List Ct := [c38_1, c40_0, c44_0]
noncomputable def c37_1_p0 : PE := (7, [0, 1, 2], (7, (zt19 []), [], [qvR 0, qvK (.ofNat 7), qvK (.ofNat 0)], zh114, []), symsL 4 0, some ((.ofNat 121), []), 0, 0)
noncomputable def c37_1_p1 : PE := (7, [0, 1, 2, 3], (9, [qtN 0 1 60, qtA 1, qtN 2 0 60, qtN 3 0 60, qtN 4 1 60, qtN 5 43 45, qtA 6, qtN 7 0 60, qtN 8 1 60], [], [qvR 0, qvK (.ofNat 7), qvS 4, qvS 5], zh119, []), symsL 4 0, some ((.ofNat 121), [(4, (.negSucc 0))]), 0, 0)
noncomputable def c37_1_pts : List PE := [c37_1_p0, c37_1_p1]
set_option maxRecDepth 100000 in
theorem c37_1_k : enCtF c37_1 c37_1_e (pkP (c37_1_pts ++ []) [0]) (none) (noF, noM, 128, 0, 4) 3000 = true := by decide +kernel
set_option maxRecDepth 100000 in
theorem c37_1_k0 : ptCtF c37_1 c37_1_e (pkP (c37_1_pts ++ []) [1]) (noF, noM, 128, 0, 4) 3000 c37_1_p0 = true := by decide +kernel
set_option maxRecDepth 100000 in
theorem c37_1_k1 : ptCtF c37_1 c37_1_e (pkP (c37_1_pts ++ []) [1]) (noF, noM, 128, 0, 4) 3000 c37_1_p1 = true := by decide +kernel
set_option maxRecDepth 100000 in
theorem c37_1_v : ValidC PPk c37_1 := ct_ok fpk ⟨noF_ok, noM_ok⟩ (d := 13) (ext := []) (pts := c37_1_pts) (env := c37_1_e) rfl (List.forall_mem_cons.mpr ⟨⟨c38_1_v, Nat.le_of_ble_eq_true rfl⟩, List.forall_mem_cons.mpr ⟨⟨c40_0_v, Nat.le_of_ble_eq_true rfl⟩, List.forall_mem_cons.mpr ⟨⟨c44_0_v, Nat.le_of_ble_eq_true rfl⟩, fun _ h => (by cases h)⟩⟩⟩) ext_nil (fun q h => (by cases h)) (enF c37_1_k) (List.forall_mem_cons.mpr ⟨⟨_, ptF c37_1_k0⟩, List.forall_mem_cons.mpr ⟨⟨_, ptF c37_1_k1⟩, fun _ h => (by cases h)⟩⟩)

noncomputable def c36_1 : Ct := (36, 15, (4, [qtN 0 0 60, qtA 1, qtN 2 0 60, qtN 3 0 60], [], [qvR 0, qvK (.ofNat 7)], zh113, []),
  [((7, [qtA 4, qtN 5 0 60, qtN 6 0 60], [], [], zh114, []), 0, 0)])
noncomputable def c36_1_e : List Ct := [c37_1, c40_0, c44_0]
noncomputable def c36_1_pts : List PE := []
set_option maxRecDepth 100000 in
theorem c36_1_k : enCtF c36_1 c36_1_e (pkP (c36_1_pts ++ []) []) (none) noH 3000 = true := by decide +kernel
set_option maxRecDepth 100000 in
theorem c36_1_v : ValidC PPk c36_1 := ct_ok fpk noH_ok (d := 14) (ext := []) (pts := c36_1_pts) (env := c36_1_e) rfl (List.forall_mem_cons.mpr ⟨⟨c37_1_v, Nat.le_of_ble_eq_true rfl⟩, List.forall_mem_cons.mpr ⟨⟨c40_0_v, Nat.le_of_ble_eq_true rfl⟩, List.forall_mem_cons.mpr ⟨⟨c44_0_v, Nat.le_of_ble_eq_true rfl⟩, fun _ h => (by cases h)⟩⟩⟩) ext_nil (fun q h => (by cases h)) (enF c36_1_k) (fun _ h => (by cases h))

noncomputable def c35_1 : Ct := (35, 16, (4, [qtN 0 0 60, qtA 1, qtN 2 0 60, qtN 3 0 60], [], [qvR 0, qvK (.ofNat 7)], zh113, []),
  [((7, [qtA 4, qtN 5 0 60, qtN 6 0 60], [], [], zh114, []), 0, 0)])
noncomputable def c35_1_e : List Ct := [c36_1, c40_0, c44_0]
noncomputable def c35_1_p0 : PE := (7, [0, 1, 2], (8, [qtN 0 0 60, qtA 1, qtN 2 0 60, qtN 3 0 60, qtN 4 0 60, qtA 5, qtN 6 0 60, qtN 7 0 60], [], [qvR 0, qvK (.ofNat 7), qvS 4], zh116, []), symsL 4 0, some ((.ofNat 121), [(4, (.negSucc 0))]), 0, 0)
noncomputable def c35_1_pts : List PE := [c35_1_p0]
set_option maxRecDepth 100000 in
theorem c35_1_k : enCtF c35_1 c35_1_e (pkP (c35_1_pts ++ []) [0]) (none) (noF, noM, 128, 0, 4) 3000 = true := by decide +kernel
set_option maxRecDepth 100000 in
theorem c35_1_k0 : ptCtF c35_1 c35_1_e (pkP (c35_1_pts ++ []) [0]) (noF, noM, 128, 0, 4) 3000 c35_1_p0 = true := by decide +kernel
set_option maxRecDepth 100000 in
theorem c35_1_v : ValidC PPk c35_1 := ct_ok fpk ⟨noF_ok, noM_ok⟩ (d := 15) (ext := []) (pts := c35_1_pts) (env := c35_1_e) rfl (List.forall_mem_cons.mpr ⟨⟨c36_1_v, Nat.le_of_ble_eq_true rfl⟩, List.forall_mem_cons.mpr ⟨⟨c40_0_v, Nat.le_of_ble_eq_true rfl⟩, List.forall_mem_cons.mpr ⟨⟨c44_0_v, Nat.le_of_ble_eq_true rfl⟩, fun _ h => (by cases h)⟩⟩⟩) ext_nil (fun q h => (by cases h)) (enF c35_1_k) (List.forall_mem_cons.mpr ⟨⟨_, ptF c35_1_k0⟩, fun _ h => (by cases h)⟩)

noncomputable def c34_1 : Ct := (34, 17, (4, [qtN 0 0 60, qtA 1, qtN 2 0 60, qtN 3 0 60], [], [qvR 0, qvK (.ofNat 7)], zh113, []),
  [((7, [qtA 4, qtN 5 0 60, qtN 6 0 60], [], [], zh114, []), 0, 0)])
noncomputable def c34_1_e : List Ct := [c35_1, c40_0, c44_0]
noncomputable def c34_1_p0 : PE := (7, [0, 1, 2], (8, [qtN 0 0 60, qtA 1, qtN 2 0 60, qtN 3 0 60, qtN 4 0 60, qtA 5, qtN 6 0 60, qtN 7 0 60], [], [qvR 0, qvK (.ofNat 7), qvS 4], zh116, []), symsL 4 0, some ((.ofNat 121), [(4, (.negSucc 0))]), 0, 0)
noncomputable def c34_1_pts : List PE := [c34_1_p0]
set_option maxRecDepth 100000 in
theorem c34_1_k : enCtF c34_1 c34_1_e (pkP (c34_1_pts ++ []) [0]) (none) (noF, noM, 128, 0, 4) 3000 = true := by decide +kernel
set_option maxRecDepth 100000 in
theorem c34_1_k0 : ptCtF c34_1 c34_1_e (pkP (c34_1_pts ++ []) [0]) (noF, noM, 128, 0, 4) 3000 c34_1_p0 = true := by decide +kernel
set_option maxRecDepth 100000 in
theorem c34_1_v : ValidC PPk c34_1 := ct_ok fpk ⟨noF_ok, noM_ok⟩ (d := 16) (ext := []) (pts := c34_1_pts) (env := c34_1_e) rfl (List.forall_mem_cons.mpr ⟨⟨c35_1_v, Nat.le_of_ble_eq_true rfl⟩, List.forall_mem_cons.mpr ⟨⟨c40_0_v, Nat.le_of_ble_eq_true rfl⟩, List.forall_mem_cons.mpr ⟨⟨c44_0_v, Nat.le_of_ble_eq_true rfl⟩, fun _ h => (by cases h)⟩⟩⟩) ext_nil (fun q h => (by cases h)) (enF c34_1_k) (List.forall_mem_cons.mpr ⟨⟨_, ptF c34_1_k0⟩, fun _ h => (by cases h)⟩)

noncomputable def c45_2 : Ct := (45, 18, (4, [qtN 0 0 60, qtA 1, qtN 2 0 60, qtN 3 0 60], [((.ofNat 1), [(0, (.negSucc 0)), (2, (.ofNat 1))])], [qvR 0, qvK (.ofNat 6)], zh113, []),
  [((7, [qtA 4, qtN 5 0 60, qtN 6 0 60], [], [], zh114, []), 0, 0)])
noncomputable def c45_2_e : List Ct := [c34_1, c40_0, c43_0]
noncomputable def c45_2_pts : List PE := []
set_option maxRecDepth 100000 in
theorem c45_2_k : enCtF c45_2 c45_2_e (pkP (c45_2_pts ++ []) []) (none) noH 3000 = true := by decide +kernel
set_option maxRecDepth 100000 in
theorem c45_2_v : ValidC PPk c45_2 := ct_ok fpk noH_ok (d := 17) (ext := []) (pts := c45_2_pts) (env := c45_2_e) rfl (List.forall_mem_cons.mpr ⟨⟨c34_1_v, Nat.le_of_ble_eq_true rfl⟩, List.forall_mem_cons.mpr ⟨⟨c40_0_v, Nat.le_of_ble_eq_true rfl⟩, List.forall_mem_cons.mpr ⟨⟨c43_0_v, Nat.le_of_ble_eq_true rfl⟩, fun _ h => (by cases h)⟩⟩⟩) ext_nil (fun q h => (by cases h)) (enF c45_2_k) (fun _ h => (by cases h))

noncomputable def c41_4 : Ct := (41, 19, (5, [qtN 0 0 60, qtA 1, qtN 2 0 60, qtN 3 0 60, qtA 4], [((.ofNat 1), [(0, (.negSucc 0)), (2, (.ofNat 1))])], [qvR 0, qvS 4, qvK (.ofNat 6)], zh113, []),
  [((8, [qtA 5, qtN 6 0 60, qtN 7 0 60], [], [], zh116, []), 0, 0)])
noncomputable def c41_4_e : List Ct := [c42_0, c43_0, c44_0, c45_2]
noncomputable def c41_4_pts : List PE := []
set_option maxRecDepth 100000 in
theorem c41_4_k : enCtF c41_4 c41_4_e (pkP (c41_4_pts ++ []) []) (none) noH 3000 = true := by decide +kernel
set_option maxRecDepth 100000 in
theorem c41_4_v : ValidC PPk c41_4 := ct_ok fpk noH_ok (d := 18) (ext := []) (pts := c41_4_pts) (env := c41_4_e) rfl (List.forall_mem_cons.mpr ⟨⟨c42_0_v, Nat.le_of_ble_eq_true rfl⟩, List.forall_mem_cons.mpr ⟨⟨c43_0_v, Nat.le_of_ble_eq_true rfl⟩, List.forall_mem_cons.mpr ⟨⟨c44_0_v, Nat.le_of_ble_eq_true rfl⟩, List.forall_mem_cons.mpr ⟨⟨c45_2_v, Nat.le_of_ble_eq_true rfl⟩, fun _ h => (by cases h)⟩⟩⟩⟩) ext_nil (fun q h => (by cases h)) (enF c41_4_k) (fun _ h => (by cases h))

noncomputable def c41_5 : Ct := (41, 2, (6, [qtN 0 0 60, qtA 1, qtN 2 0 60, qtN 3 0 60], [], [qvR 0, qvK (.negSucc 0), qvK (.ofNat 6)], zh111, []),
  [((7, [qtA 6], [], [], zh112, []), 0, 0)])
noncomputable def c41_5_e : List Ct := [c43_0]
noncomputable def c41_5_pts : List PE := []
set_option maxRecDepth 100000 in
theorem c41_5_k : enCtF c41_5 c41_5_e (pkP (c41_5_pts ++ []) []) (none) noH 3000 = true := by decide +kernel
set_option maxRecDepth 100000 in
theorem c41_5_v : ValidC PPk c41_5 := ct_ok fpk noH_ok (d := 1) (ext := []) (pts := c41_5_pts) (env := c41_5_e) rfl (List.forall_mem_cons.mpr ⟨⟨c43_0_v, Nat.le_of_ble_eq_true rfl⟩, fun _ h => (by cases h)⟩) ext_nil (fun q h => (by cases h)) (enF c41_5_k) (fun _ h => (by cases h))

noncomputable def c39_2 : Ct := (39, 20, (4, [qtN 0 0 60, qtA 1, qtN 2 0 60, qtN 3 0 60], [], [qvR 0, qvK (.ofNat 6)], zh113, []),
  [((7, [qtA 4, qtN 5 0 60, qtN 6 0 60], [], [], zh114, []), 0, 0)])
noncomputable def c39_2_e : List Ct := [c40_0, c41_4, c41_5, c44_0]
noncomputable def c39_2_p0 : PE := (13, [0, 1, 2, 3, 4], (7, [qtN 0 1 60, (1, (.negSucc 0), (.negSucc 0)), qtN 2 0 60, qtN 3 0 60, qtN 4 0 127, qtN 5 0 60, qtN 6 0 59], [((.ofNat 1), [(0, (.negSucc 0)), (6, (.ofNat 1))])], [qvR 0, qvK (.ofNat 6), qvS 2, qvS 4, qvS 5], zh117, []), symsL 4 0, some ((.ofNat 182), [(5, (.negSucc 0))]), 0, 0)
noncomputable def c39_2_p1 : PE := (13, [0, 1, 2, 3, 4], (6, [qtN 0 0 60, qtA 1, qtN 2 0 60, qtN 3 0 60, qtN 4 0 60, qtN 5 0 60], [], [qvR 0, qvK (.ofNat 6), qvS 2, qvK (.negSucc 0), qvS 4], zh115, []), symsL 4 0, some ((.ofNat 182), [(4, (.negSucc 0))]), 0, 0)
noncomputable def c39_2_p2 : PE := (71, [0, 1, 2, 3, 4, 5], (10, [qtN 0 0 60, qtA 1, qtN 2 0 60, qtN 3 0 60, (4, (.negSucc 0), (.ofNat 127)), qtN 5 0 60, (6, (.negSucc 0), (.ofNat 59)), qtA 7, qtN 8 0 60, qtN 9 0 60], [], [qvR 0, qvK (.ofNat 6), qvS 2, qvS 4, qvS 5, qvS 6], zh118, []), symsL 4 0, some ((.ofNat 62), [(6, (.ofNat 1))]), 0, 0)
noncomputable def c39_2_pts : List PE := [c39_2_p0, c39_2_p1, c39_2_p2]
set_option maxRecDepth 100000 in
theorem c39_2_k : enCtF c39_2 c39_2_e (pkP (c39_2_pts ++ []) [1, 0]) (none) (noF, noM, 2361183241434822615040, 0, 4) 3000 = true := by decide +kernel
set_option maxRecDepth 100000 in
theorem c39_2_k0 : ptCtF c39_2 c39_2_e (pkP (c39_2_pts ++ []) [2, 1, 0]) (noF, noM, 2361183241434822615040, 0, 4) 3000 c39_2_p0 = true := by decide +kernel
set_option maxRecDepth 100000 in
theorem c39_2_k1 : ptCtF c39_2 c39_2_e (pkP (c39_2_pts ++ []) [2]) (noF, noM, 2361183241434822615040, 0, 4) 3000 c39_2_p1 = true := by decide +kernel
set_option maxRecDepth 100000 in
theorem c39_2_k2 : ptCtF c39_2 c39_2_e (pkP (c39_2_pts ++ []) [2]) (noF, noM, 2361183241434822615040, 0, 4) 3000 c39_2_p2 = true := by decide +kernel
set_option maxRecDepth 100000 in
theorem c39_2_v : ValidC PPk c39_2 := ct_ok fpk ⟨noF_ok, noM_ok⟩ (d := 19) (ext := []) (pts := c39_2_pts) (env := c39_2_e) rfl (List.forall_mem_cons.mpr ⟨⟨c40_0_v, Nat.le_of_ble_eq_true rfl⟩, List.forall_mem_cons.mpr ⟨⟨c41_4_v, Nat.le_of_ble_eq_true rfl⟩, List.forall_mem_cons.mpr ⟨⟨c41_5_v, Nat.le_of_ble_eq_true rfl⟩, List.forall_mem_cons.mpr ⟨⟨c44_0_v, Nat.le_of_ble_eq_true rfl⟩, fun _ h => (by cases h)⟩⟩⟩⟩) ext_nil (fun q h => (by cases h)) (enF c39_2_k) (List.forall_mem_cons.mpr ⟨⟨_, ptF c39_2_k0⟩, List.forall_mem_cons.mpr ⟨⟨_, ptF c39_2_k1⟩, List.forall_mem_cons.mpr ⟨⟨_, ptF c39_2_k2⟩, fun _ h => (by cases h)⟩⟩⟩)

noncomputable def c38_2 : Ct := (38, 21, (4, [qtN 0 0 60, qtA 1, qtN 2 0 60, qtN 3 0 60], [], [qvR 0, qvK (.ofNat 6)], zh113, []),
  [((7, [qtA 4, qtN 5 0 60, qtN 6 0 60], [], [], zh114, []), 0, 0)])
noncomputable def c38_2_e : List Ct := [c39_2, c40_0, c44_0]
noncomputable def c38_2_p0 : PE := (7, [0, 1, 2], (7, (zt19 []), [], [qvR 0, qvK (.ofNat 6), qvK (.ofNat 0)], zh114, []), symsL 4 0, some ((.ofNat 121), []), 0, 0)
noncomputable def c38_2_p1 : PE := (7, [0, 1, 2, 3], (9, [qtN 0 1 60, qtA 1, qtN 2 0 60, qtN 3 0 60, qtN 4 1 60, qtN 5 42 47, qtA 6, qtN 7 0 60, qtN 8 1 60], [], [qvR 0, qvK (.ofNat 6), qvS 4, qvS 5], zh119, []), symsL 4 0, some ((.ofNat 121), [(4, (.negSucc 0))]), 0, 0)
noncomputable def c38_2_pts : List PE := [c38_2_p0, c38_2_p1]
set_option maxRecDepth 100000 in
theorem c38_2_k : enCtF c38_2 c38_2_e (pkP (c38_2_pts ++ []) [0]) (none) (noF, noM, 128, 0, 4) 3000 = true := by decide +kernel
set_option maxRecDepth 100000 in
theorem c38_2_k0 : ptCtF c38_2 c38_2_e (pkP (c38_2_pts ++ []) [1]) (noF, noM, 128, 0, 4) 3000 c38_2_p0 = true := by decide +kernel
set_option maxRecDepth 100000 in
theorem c38_2_k1 : ptCtF c38_2 c38_2_e (pkP (c38_2_pts ++ []) [1]) (noF, noM, 128, 0, 4) 3000 c38_2_p1 = true := by decide +kernel
set_option maxRecDepth 100000 in
theorem c38_2_v : ValidC PPk c38_2 := ct_ok fpk ⟨noF_ok, noM_ok⟩ (d := 20) (ext := []) (pts := c38_2_pts) (env := c38_2_e) rfl (List.forall_mem_cons.mpr ⟨⟨c39_2_v, Nat.le_of_ble_eq_true rfl⟩, List.forall_mem_cons.mpr ⟨⟨c40_0_v, Nat.le_of_ble_eq_true rfl⟩, List.forall_mem_cons.mpr ⟨⟨c44_0_v, Nat.le_of_ble_eq_true rfl⟩, fun _ h => (by cases h)⟩⟩⟩) ext_nil (fun q h => (by cases h)) (enF c38_2_k) (List.forall_mem_cons.mpr ⟨⟨_, ptF c38_2_k0⟩, List.forall_mem_cons.mpr ⟨⟨_, ptF c38_2_k1⟩, fun _ h => (by cases h)⟩⟩)

noncomputable def c37_2 : Ct := (37, 22, (4, [qtN 0 0 60, qtA 1, qtN 2 0 60, qtN 3 0 60], [], [qvR 0, qvK (.ofNat 6)], zh113, []),
  [((7, [qtA 4, qtN 5 0 60, qtN 6 0 60], [], [], zh114, []), 0, 0)])
noncomputable def c37_2_e : List Ct := [c38_2, c40_0, c44_0]
noncomputable def c37_2_p0 : PE := (7, [0, 1, 2], (7, (zt19 []), [], [qvR 0, qvK (.ofNat 6), qvK (.ofNat 0)], zh114, []), symsL 4 0, some ((.ofNat 121), []), 0, 0)
noncomputable def c37_2_p1 : PE := (7, [0, 1, 2, 3], (9, [qtN 0 1 60, qtA 1, qtN 2 0 60, qtN 3 0 60, qtN 4 1 60, qtN 5 43 45, qtA 6, qtN 7 0 60, qtN 8 1 60], [], [qvR 0, qvK (.ofNat 6), qvS 4, qvS 5], zh119, []), symsL 4 0, some ((.ofNat 121), [(4, (.negSucc 0))]), 0, 0)
noncomputable def c37_2_pts : List PE := [c37_2_p0, c37_2_p1]
set_option maxRecDepth 100000 in
theorem c37_2_k : enCtF c37_2 c37_2_e (pkP (c37_2_pts ++ []) [0]) (none) (noF, noM, 128, 0, 4) 3000 = true := by decide +kernel
set_option maxRecDepth 100000 in
theorem c37_2_k0 : ptCtF c37_2 c37_2_e (pkP (c37_2_pts ++ []) [1]) (noF, noM, 128, 0, 4) 3000 c37_2_p0 = true := by decide +kernel
set_option maxRecDepth 100000 in
theorem c37_2_k1 : ptCtF c37_2 c37_2_e (pkP (c37_2_pts ++ []) [1]) (noF, noM, 128, 0, 4) 3000 c37_2_p1 = true := by decide +kernel
set_option maxRecDepth 100000 in
theorem c37_2_v : ValidC PPk c37_2 := ct_ok fpk ⟨noF_ok, noM_ok⟩ (d := 21) (ext := []) (pts := c37_2_pts) (env := c37_2_e) rfl (List.forall_mem_cons.mpr ⟨⟨c38_2_v, Nat.le_of_ble_eq_true rfl⟩, List.forall_mem_cons.mpr ⟨⟨c40_0_v, Nat.le_of_ble_eq_true rfl⟩, List.forall_mem_cons.mpr ⟨⟨c44_0_v, Nat.le_of_ble_eq_true rfl⟩, fun _ h => (by cases h)⟩⟩⟩) ext_nil (fun q h => (by cases h)) (enF c37_2_k) (List.forall_mem_cons.mpr ⟨⟨_, ptF c37_2_k0⟩, List.forall_mem_cons.mpr ⟨⟨_, ptF c37_2_k1⟩, fun _ h => (by cases h)⟩⟩)

noncomputable def c36_2 : Ct := (36, 23, (4, [qtN 0 0 60, qtA 1, qtN 2 0 60, qtN 3 0 60], [], [qvR 0, qvK (.ofNat 6)], zh113, []),
  [((7, [qtA 4, qtN 5 0 60, qtN 6 0 60], [], [], zh114, []), 0, 0)])
noncomputable def c36_2_e : List Ct := [c37_2, c40_0, c44_0]
noncomputable def c36_2_pts : List PE := []
set_option maxRecDepth 100000 in
theorem c36_2_k : enCtF c36_2 c36_2_e (pkP (c36_2_pts ++ []) []) (none) noH 3000 = true := by decide +kernel
set_option maxRecDepth 100000 in
theorem c36_2_v : ValidC PPk c36_2 := ct_ok fpk noH_ok (d := 22) (ext := []) (pts := c36_2_pts) (env := c36_2_e) rfl (List.forall_mem_cons.mpr ⟨⟨c37_2_v, Nat.le_of_ble_eq_true rfl⟩, List.forall_mem_cons.mpr ⟨⟨c40_0_v, Nat.le_of_ble_eq_true rfl⟩, List.forall_mem_cons.mpr ⟨⟨c44_0_v, Nat.le_of_ble_eq_true rfl⟩, fun _ h => (by cases h)⟩⟩⟩) ext_nil (fun q h => (by cases h)) (enF c36_2_k) (fun _ h => (by cases h))

noncomputable def c35_2 : Ct := (35, 24, (4, [qtN 0 0 60, qtA 1, qtN 2 0 60, qtN 3 0 60], [], [qvR 0, qvK (.ofNat 6)], zh113, []),
  [((7, [qtA 4, qtN 5 0 60, qtN 6 0 60], [], [], zh114, []), 0, 0)])
noncomputable def c35_2_e : List Ct := [c36_2, c40_0, c44_0]
noncomputable def c35_2_p0 : PE := (7, [0, 1, 2], (8, [qtN 0 0 60, qtA 1, qtN 2 0 60, qtN 3 0 60, qtN 4 0 60, qtA 5, qtN 6 0 60, qtN 7 0 60], [], [qvR 0, qvK (.ofNat 6), qvS 4], zh116, []), symsL 4 0, some ((.ofNat 121), [(4, (.negSucc 0))]), 0, 0)
noncomputable def c35_2_pts : List PE := [c35_2_p0]
set_option maxRecDepth 100000 in
theorem c35_2_k : enCtF c35_2 c35_2_e (pkP (c35_2_pts ++ []) [0]) (none) (noF, noM, 128, 0, 4) 3000 = true := by decide +kernel
set_option maxRecDepth 100000 in
theorem c35_2_k0 : ptCtF c35_2 c35_2_e (pkP (c35_2_pts ++ []) [0]) (noF, noM, 128, 0, 4) 3000 c35_2_p0 = true := by decide +kernel
set_option maxRecDepth 100000 in
theorem c35_2_v : ValidC PPk c35_2 := ct_ok fpk ⟨noF_ok, noM_ok⟩ (d := 23) (ext := []) (pts := c35_2_pts) (env := c35_2_e) rfl (List.forall_mem_cons.mpr ⟨⟨c36_2_v, Nat.le_of_ble_eq_true rfl⟩, List.forall_mem_cons.mpr ⟨⟨c40_0_v, Nat.le_of_ble_eq_true rfl⟩, List.forall_mem_cons.mpr ⟨⟨c44_0_v, Nat.le_of_ble_eq_true rfl⟩, fun _ h => (by cases h)⟩⟩⟩) ext_nil (fun q h => (by cases h)) (enF c35_2_k) (List.forall_mem_cons.mpr ⟨⟨_, ptF c35_2_k0⟩, fun _ h => (by cases h)⟩)

noncomputable def c34_2 : Ct := (34, 25, (4, [qtN 0 0 60, qtA 1, qtN 2 0 60, qtN 3 0 60], [], [qvR 0, qvK (.ofNat 6)], zh113, []),
  [((7, [qtA 4, qtN 5 0 60, qtN 6 0 60], [], [], zh114, []), 0, 0)])
noncomputable def c34_2_e : List Ct := [c35_2, c40_0, c44_0]
noncomputable def c34_2_p0 : PE := (7, [0, 1, 2], (8, [qtN 0 0 60, qtA 1, qtN 2 0 60, qtN 3 0 60, qtN 4 0 60, qtA 5, qtN 6 0 60, qtN 7 0 60], [], [qvR 0, qvK (.ofNat 6), qvS 4], zh116, []), symsL 4 0, some ((.ofNat 121), [(4, (.negSucc 0))]), 0, 0)
noncomputable def c34_2_pts : List PE := [c34_2_p0]
set_option maxRecDepth 100000 in
theorem c34_2_k : enCtF c34_2 c34_2_e (pkP (c34_2_pts ++ []) [0]) (none) (noF, noM, 128, 0, 4) 3000 = true := by decide +kernel
set_option maxRecDepth 100000 in
theorem c34_2_k0 : ptCtF c34_2 c34_2_e (pkP (c34_2_pts ++ []) [0]) (noF, noM, 128, 0, 4) 3000 c34_2_p0 = true := by decide +kernel
set_option maxRecDepth 100000 in
theorem c34_2_v : ValidC PPk c34_2 := ct_ok fpk ⟨noF_ok, noM_ok⟩ (d := 24) (ext := []) (pts := c34_2_pts) (env := c34_2_e) rfl (List.forall_mem_cons.mpr ⟨⟨c35_2_v, Nat.le_of_ble_eq_true rfl⟩, List.forall_mem_cons.mpr ⟨⟨c40_0_v, Nat.le_of_ble_eq_true rfl⟩, List.forall_mem_cons.mpr ⟨⟨c44_0_v, Nat.le_of_ble_eq_true rfl⟩, fun _ h => (by cases h)⟩⟩⟩) ext_nil (fun q h => (by cases h)) (enF c34_2_k) (List.forall_mem_cons.mpr ⟨⟨_, ptF c34_2_k0⟩, fun _ h => (by cases h)⟩)

noncomputable def c45_3 : Ct := (45, 26, (4, [qtN 0 0 60, qtA 1, qtN 2 0 60, qtN 3 0 60], [((.ofNat 1), [(0, (.negSucc 0)), (2, (.ofNat 1))])], [qvR 0, qvK (.ofNat 5)], zh113, []),
  [((7, [qtA 4, qtN 5 0 60, qtN 6 0 60], [], [], zh114, []), 0, 0)])
noncomputable def c45_3_e : List Ct := [c34_2, c40_0, c43_0]
noncomputable def c45_3_pts : List PE := []
set_option maxRecDepth 100000 in
theorem c45_3_k : enCtF c45_3 c45_3_e (pkP (c45_3_pts ++ []) []) (none) noH 3000 = true := by decide +kernel
set_option maxRecDepth 100000 in
theorem c45_3_v : ValidC PPk c45_3 := ct_ok fpk noH_ok (d := 25) (ext := []) (pts := c45_3_pts) (env := c45_3_e) rfl (List.forall_mem_cons.mpr ⟨⟨c34_2_v, Nat.le_of_ble_eq_true rfl⟩, List.forall_mem_cons.mpr ⟨⟨c40_0_v, Nat.le_of_ble_eq_true rfl⟩, List.forall_mem_cons.mpr ⟨⟨c43_0_v, Nat.le_of_ble_eq_true rfl⟩, fun _ h => (by cases h)⟩⟩⟩) ext_nil (fun q h => (by cases h)) (enF c45_3_k) (fun _ h => (by cases h))

noncomputable def c41_6 : Ct := (41, 27, (5, [qtN 0 0 60, qtA 1, qtN 2 0 60, qtN 3 0 60, qtA 4], [((.ofNat 1), [(0, (.negSucc 0)), (2, (.ofNat 1))])], [qvR 0, qvS 4, qvK (.ofNat 5)], zh113, []),
  [((8, [qtA 5, qtN 6 0 60, qtN 7 0 60], [], [], zh116, []), 0, 0)])
noncomputable def c41_6_e : List Ct := [c42_0, c43_0, c44_0, c45_3]
noncomputable def c41_6_pts : List PE := []
set_option maxRecDepth 100000 in
theorem c41_6_k : enCtF c41_6 c41_6_e (pkP (c41_6_pts ++ []) []) (none) noH 3000 = true := by decide +kernel
set_option maxRecDepth 100000 in
theorem c41_6_v : ValidC PPk c41_6 := ct_ok fpk noH_ok (d := 26) (ext := []) (pts := c41_6_pts) (env := c41_6_e) rfl (List.forall_mem_cons.mpr ⟨⟨c42_0_v, Nat.le_of_ble_eq_true rfl⟩, List.forall_mem_cons.mpr ⟨⟨c43_0_v, Nat.le_of_ble_eq_true rfl⟩, List.forall_mem_cons.mpr ⟨⟨c44_0_v, Nat.le_of_ble_eq_true rfl⟩, List.forall_mem_cons.mpr ⟨⟨c45_3_v, Nat.le_of_ble_eq_true rfl⟩, fun _ h => (by cases h)⟩⟩⟩⟩) ext_nil (fun q h => (by cases h)) (enF c41_6_k) (fun _ h => (by cases h))

noncomputable def c41_7 : Ct := (41, 2, (6, [qtN 0 0 60, qtA 1, qtN 2 0 60, qtN 3 0 60], [], [qvR 0, qvK (.negSucc 0), qvK (.ofNat 5)], zh111, []),
  [((7, [qtA 6], [], [], zh112, []), 0, 0)])
noncomputable def c41_7_e : List Ct := [c43_0]
noncomputable def c41_7_pts : List PE := []
set_option maxRecDepth 100000 in
theorem c41_7_k : enCtF c41_7 c41_7_e (pkP (c41_7_pts ++ []) []) (none) noH 3000 = true := by decide +kernel
set_option maxRecDepth 100000 in
theorem c41_7_v : ValidC PPk c41_7 := ct_ok fpk noH_ok (d := 1) (ext := []) (pts := c41_7_pts) (env := c41_7_e) rfl (List.forall_mem_cons.mpr ⟨⟨c43_0_v, Nat.le_of_ble_eq_true rfl⟩, fun _ h => (by cases h)⟩) ext_nil (fun q h => (by cases h)) (enF c41_7_k) (fun _ h => (by cases h))

noncomputable def c39_3 : Ct := (39, 28, (4, [qtN 0 0 60, qtA 1, qtN 2 0 60, qtN 3 0 60], [], [qvR 0, qvK (.ofNat 5)], zh113, []),
  [((7, [qtA 4, qtN 5 0 60, qtN 6 0 60], [], [], zh114, []), 0, 0)])
noncomputable def c39_3_e : List Ct := [c40_0, c41_6, c41_7, c44_0]
noncomputable def c39_3_p0 : PE := (13, [0, 1, 2, 3, 4], (7, [qtN 0 1 60, (1, (.negSucc 0), (.negSucc 0)), qtN 2 0 60, qtN 3 0 60, qtN 4 0 127, qtN 5 0 60, qtN 6 0 59], [((.ofNat 1), [(0, (.negSucc 0)), (6, (.ofNat 1))])], [qvR 0, qvK (.ofNat 5), qvS 2, qvS 4, qvS 5], zh117, []), symsL 4 0, some ((.ofNat 182), [(5, (.negSucc 0))]), 0, 0)
noncomputable def c39_3_p1 : PE := (13, [0, 1, 2, 3, 4], (6, [qtN 0 0 60, qtA 1, qtN 2 0 60, qtN 3 0 60, qtN 4 0 60, qtN 5 0 60], [], [qvR 0, qvK (.ofNat 5), qvS 2, qvK (.negSucc 0), qvS 4], zh115, []), symsL 4 0, some ((.ofNat 182), [(4, (.negSucc 0))]), 0, 0)
noncomputable def c39_3_p2 : PE := (71, [0, 1, 2, 3, 4, 5], (10, [qtN 0 0 60, qtA 1, qtN 2 0 60, qtN 3 0 60, (4, (.negSucc 0), (.ofNat 127)), qtN 5 0 60, (6, (.negSucc 0), (.ofNat 59)), qtA 7, qtN 8 0 60, qtN 9 0 60], [], [qvR 0, qvK (.ofNat 5), qvS 2, qvS 4, qvS 5, qvS 6], zh118, []), symsL 4 0, some ((.ofNat 62), [(6, (.ofNat 1))]), 0, 0)
noncomputable def c39_3_pts : List PE := [c39_3_p0, c39_3_p1, c39_3_p2]
set_option maxRecDepth 100000 in
theorem c39_3_k : enCtF c39_3 c39_3_e (pkP (c39_3_pts ++ []) [1, 0]) (none) (noF, noM, 2361183241434822615040, 0, 4) 3000 = true := by decide +kernel
set_option maxRecDepth 100000 in
theorem c39_3_k0 : ptCtF c39_3 c39_3_e (pkP (c39_3_pts ++ []) [2, 1, 0]) (noF, noM, 2361183241434822615040, 0, 4) 3000 c39_3_p0 = true := by decide +kernel
set_option maxRecDepth 100000 in
theorem c39_3_k1 : ptCtF c39_3 c39_3_e (pkP (c39_3_pts ++ []) [2]) (noF, noM, 2361183241434822615040, 0, 4) 3000 c39_3_p1 = true := by decide +kernel
set_option maxRecDepth 100000 in
theorem c39_3_k2 : ptCtF c39_3 c39_3_e (pkP (c39_3_pts ++ []) [2]) (noF, noM, 2361183241434822615040, 0, 4) 3000 c39_3_p2 = true := by decide +kernel
set_option maxRecDepth 100000 in
theorem c39_3_v : ValidC PPk c39_3 := ct_ok fpk ⟨noF_ok, noM_ok⟩ (d := 27) (ext := []) (pts := c39_3_pts) (env := c39_3_e) rfl (List.forall_mem_cons.mpr ⟨⟨c40_0_v, Nat.le_of_ble_eq_true rfl⟩, List.forall_mem_cons.mpr ⟨⟨c41_6_v, Nat.le_of_ble_eq_true rfl⟩, List.forall_mem_cons.mpr ⟨⟨c41_7_v, Nat.le_of_ble_eq_true rfl⟩, List.forall_mem_cons.mpr ⟨⟨c44_0_v, Nat.le_of_ble_eq_true rfl⟩, fun _ h => (by cases h)⟩⟩⟩⟩) ext_nil (fun q h => (by cases h)) (enF c39_3_k) (List.forall_mem_cons.mpr ⟨⟨_, ptF c39_3_k0⟩, List.forall_mem_cons.mpr ⟨⟨_, ptF c39_3_k1⟩, List.forall_mem_cons.mpr ⟨⟨_, ptF c39_3_k2⟩, fun _ h => (by cases h)⟩⟩⟩)

noncomputable def c38_3 : Ct := (38, 29, (4, [qtN 0 0 60, qtA 1, qtN 2 0 60, qtN 3 0 60], [], [qvR 0, qvK (.ofNat 5)], zh113, []),
  [((7, [qtA 4, qtN 5 0 60, qtN 6 0 60], [], [], zh114, []), 0, 0)])
noncomputable def c38_3_e : List Ct := [c39_3, c40_0, c44_0]
noncomputable def c38_3_p0 : PE := (7, [0, 1, 2], (7, (zt19 []), [], [qvR 0, qvK (.ofNat 5), qvK (.ofNat 0)], zh114, []), symsL 4 0, some ((.ofNat 121), []), 0, 0)
noncomputable def c38_3_p1 : PE := (7, [0, 1, 2, 3], (9, [qtN 0 1 60, qtA 1, qtN 2 0 60, qtN 3 0 60, qtN 4 1 60, qtN 5 42 47, qtA 6, qtN 7 0 60, qtN 8 1 60], [], [qvR 0, qvK (.ofNat 5), qvS 4, qvS 5], zh119, []), symsL 4 0, some ((.ofNat 121), [(4, (.negSucc 0))]), 0, 0)
noncomputable def c38_3_pts : List PE := [c38_3_p0, c38_3_p1]
set_option maxRecDepth 100000 in
theorem c38_3_k : enCtF c38_3 c38_3_e (pkP (c38_3_pts ++ []) [0]) (none) (noF, noM, 128, 0, 4) 3000 = true := by decide +kernel
set_option maxRecDepth 100000 in
theorem c38_3_k0 : ptCtF c38_3 c38_3_e (pkP (c38_3_pts ++ []) [1]) (noF, noM, 128, 0, 4) 3000 c38_3_p0 = true := by decide +kernel
set_option maxRecDepth 100000 in
theorem c38_3_k1 : ptCtF c38_3 c38_3_e (pkP (c38_3_pts ++ []) [1]) (noF, noM, 128, 0, 4) 3000 c38_3_p1 = true := by decide +kernel
set_option maxRecDepth 100000 in
theorem c38_3_v : ValidC PPk c38_3 := ct_ok fpk ⟨noF_ok, noM_ok⟩ (d := 28) (ext := []) (pts := c38_3_pts) (env := c38_3_e) rfl (List.forall_mem_cons.mpr ⟨⟨c39_3_v, Nat.le_of_ble_eq_true rfl⟩, List.forall_mem_cons.mpr ⟨⟨c40_0_v, Nat.le_of_ble_eq_true rfl⟩, List.forall_mem_cons.mpr ⟨⟨c44_0_v, Nat.le_of_ble_eq_true rfl⟩, fun _ h => (by cases h)⟩⟩⟩) ext_nil (fun q h => (by cases h)) (enF c38_3_k) (List.forall_mem_cons.mpr ⟨⟨_, ptF c38_3_k0⟩, List.forall_mem_cons.mpr ⟨⟨_, ptF c38_3_k1⟩, fun _ h => (by cases h)⟩⟩)

noncomputable def c37_3 : Ct := (37, 30, (4, [qtN 0 0 60, qtA 1, qtN 2 0 60, qtN 3 0 60], [], [qvR 0, qvK (.ofNat 5)], zh113, []),
  [((7, [qtA 4, qtN 5 0 60, qtN 6 0 60], [], [], zh114, []), 0, 0)])
noncomputable def c37_3_e : List Ct := [c38_3, c40_0, c44_0]
noncomputable def c37_3_p0 : PE := (7, [0, 1, 2], (7, (zt19 []), [], [qvR 0, qvK (.ofNat 5), qvK (.ofNat 0)], zh114, []), symsL 4 0, some ((.ofNat 121), []), 0, 0)
noncomputable def c37_3_p1 : PE := (7, [0, 1, 2, 3], (9, [qtN 0 1 60, qtA 1, qtN 2 0 60, qtN 3 0 60, qtN 4 1 60, qtN 5 43 45, qtA 6, qtN 7 0 60, qtN 8 1 60], [], [qvR 0, qvK (.ofNat 5), qvS 4, qvS 5], zh119, []), symsL 4 0, some ((.ofNat 121), [(4, (.negSucc 0))]), 0, 0)
noncomputable def c37_3_pts : List PE := [c37_3_p0, c37_3_p1]
set_option maxRecDepth 100000 in
theorem c37_3_k : enCtF c37_3 c37_3_e (pkP (c37_3_pts ++ []) [0]) (none) (noF, noM, 128, 0, 4) 3000 = true := by decide +kernel
set_option maxRecDepth 100000 in
theorem c37_3_k0 : ptCtF c37_3 c37_3_e (pkP (c37_3_pts ++ []) [1]) (noF, noM, 128, 0, 4) 3000 c37_3_p0 = true := by decide +kernel
set_option maxRecDepth 100000 in
theorem c37_3_k1 : ptCtF c37_3 c37_3_e (pkP (c37_3_pts ++ []) [1]) (noF, noM, 128, 0, 4) 3000 c37_3_p1 = true := by decide +kernel
set_option maxRecDepth 100000 in
theorem c37_3_v : ValidC PPk c37_3 := ct_ok fpk ⟨noF_ok, noM_ok⟩ (d := 29) (ext := []) (pts := c37_3_pts) (env := c37_3_e) rfl (List.forall_mem_cons.mpr ⟨⟨c38_3_v, Nat.le_of_ble_eq_true rfl⟩, List.forall_mem_cons.mpr ⟨⟨c40_0_v, Nat.le_of_ble_eq_true rfl⟩, List.forall_mem_cons.mpr ⟨⟨c44_0_v, Nat.le_of_ble_eq_true rfl⟩, fun _ h => (by cases h)⟩⟩⟩) ext_nil (fun q h => (by cases h)) (enF c37_3_k) (List.forall_mem_cons.mpr ⟨⟨_, ptF c37_3_k0⟩, List.forall_mem_cons.mpr ⟨⟨_, ptF c37_3_k1⟩, fun _ h => (by cases h)⟩⟩)

noncomputable def c36_3 : Ct := (36, 31, (4, [qtN 0 0 60, qtA 1, qtN 2 0 60, qtN 3 0 60], [], [qvR 0, qvK (.ofNat 5)], zh113, []),
  [((7, [qtA 4, qtN 5 0 60, qtN 6 0 60], [], [], zh114, []), 0, 0)])
noncomputable def c36_3_e : List Ct := [c37_3, c40_0, c44_0]
noncomputable def c36_3_pts : List PE := []
set_option maxRecDepth 100000 in
theorem c36_3_k : enCtF c36_3 c36_3_e (pkP (c36_3_pts ++ []) []) (none) noH 3000 = true := by decide +kernel
set_option maxRecDepth 100000 in
theorem c36_3_v : ValidC PPk c36_3 := ct_ok fpk noH_ok (d := 30) (ext := []) (pts := c36_3_pts) (env := c36_3_e) rfl (List.forall_mem_cons.mpr ⟨⟨c37_3_v, Nat.le_of_ble_eq_true rfl⟩, List.forall_mem_cons.mpr ⟨⟨c40_0_v, Nat.le_of_ble_eq_true rfl⟩, List.forall_mem_cons.mpr ⟨⟨c44_0_v, Nat.le_of_ble_eq_true rfl⟩, fun _ h => (by cases h)⟩⟩⟩) ext_nil (fun q h => (by cases h)) (enF c36_3_k) (fun _ h => (by cases h))

noncomputable def c35_3 : Ct := (35, 32, (4, [qtN 0 0 60, qtA 1, qtN 2 0 60, qtN 3 0 60], [], [qvR 0, qvK (.ofNat 5)], zh113, []),
  [((7, [qtA 4, qtN 5 0 60, qtN 6 0 60], [], [], zh114, []), 0, 0)])
noncomputable def c35_3_e : List Ct := [c36_3, c40_0, c44_0]
noncomputable def c35_3_p0 : PE := (7, [0, 1, 2], (8, [qtN 0 0 60, qtA 1, qtN 2 0 60, qtN 3 0 60, qtN 4 0 60, qtA 5, qtN 6 0 60, qtN 7 0 60], [], [qvR 0, qvK (.ofNat 5), qvS 4], zh116, []), symsL 4 0, some ((.ofNat 121), [(4, (.negSucc 0))]), 0, 0)
noncomputable def c35_3_pts : List PE := [c35_3_p0]
set_option maxRecDepth 100000 in
theorem c35_3_k : enCtF c35_3 c35_3_e (pkP (c35_3_pts ++ []) [0]) (none) (noF, noM, 128, 0, 4) 3000 = true := by decide +kernel
set_option maxRecDepth 100000 in
theorem c35_3_k0 : ptCtF c35_3 c35_3_e (pkP (c35_3_pts ++ []) [0]) (noF, noM, 128, 0, 4) 3000 c35_3_p0 = true := by decide +kernel
set_option maxRecDepth 100000 in
theorem c35_3_v : ValidC PPk c35_3 := ct_ok fpk ⟨noF_ok, noM_ok⟩ (d := 31) (ext := []) (pts := c35_3_pts) (env := c35_3_e) rfl (List.forall_mem_cons.mpr ⟨⟨c36_3_v, Nat.le_of_ble_eq_true rfl⟩, List.forall_mem_cons.mpr ⟨⟨c40_0_v, Nat.le_of_ble_eq_true rfl⟩, List.forall_mem_cons.mpr ⟨⟨c44_0_v, Nat.le_of_ble_eq_true rfl⟩, fun _ h => (by cases h)⟩⟩⟩) ext_nil (fun q h => (by cases h)) (enF c35_3_k) (List.forall_mem_cons.mpr ⟨⟨_, ptF c35_3_k0⟩, fun _ h => (by cases h)⟩)

noncomputable def c34_3 : Ct := (34, 33, (4, [qtN 0 0 60, qtA 1, qtN 2 0 60, qtN 3 0 60], [], [qvR 0, qvK (.ofNat 5)], zh113, []),
  [((7, [qtA 4, qtN 5 0 60, qtN 6 0 60], [], [], zh114, []), 0, 0)])
noncomputable def c34_3_e : List Ct := [c35_3, c40_0, c44_0]
noncomputable def c34_3_p0 : PE := (7, [0, 1, 2], (8, [qtN 0 0 60, qtA 1, qtN 2 0 60, qtN 3 0 60, qtN 4 0 60, qtA 5, qtN 6 0 60, qtN 7 0 60], [], [qvR 0, qvK (.ofNat 5), qvS 4], zh116, []), symsL 4 0, some ((.ofNat 121), [(4, (.negSucc 0))]), 0, 0)
noncomputable def c34_3_pts : List PE := [c34_3_p0]
set_option maxRecDepth 100000 in
theorem c34_3_k : enCtF c34_3 c34_3_e (pkP (c34_3_pts ++ []) [0]) (none) (noF, noM, 128, 0, 4) 3000 = true := by decide +kernel
set_option maxRecDepth 100000 in
theorem c34_3_k0 : ptCtF c34_3 c34_3_e (pkP (c34_3_pts ++ []) [0]) (noF, noM, 128, 0, 4) 3000 c34_3_p0 = true := by decide +kernel
set_option maxRecDepth 100000 in
theorem c34_3_v : ValidC PPk c34_3 := ct_ok fpk ⟨noF_ok, noM_ok⟩ (d := 32) (ext := []) (pts := c34_3_pts) (env := c34_3_e) rfl (List.forall_mem_cons.mpr ⟨⟨c35_3_v, Nat.le_of_ble_eq_true rfl⟩, List.forall_mem_cons.mpr ⟨⟨c40_0_v, Nat.le_of_ble_eq_true rfl⟩, List.forall_mem_cons.mpr ⟨⟨c44_0_v, Nat.le_of_ble_eq_true rfl⟩, fun _ h => (by cases h)⟩⟩⟩) ext_nil (fun q h => (by cases h)) (enF c34_3_k) (List.forall_mem_cons.mpr ⟨⟨_, ptF c34_3_k0⟩, fun _ h => (by cases h)⟩)

noncomputable def c45_4 : Ct := (45, 34, (4, [qtN 0 0 60, qtA 1, qtN 2 0 60, qtN 3 0 60], [((.ofNat 1), [(0, (.negSucc 0)), (2, (.ofNat 1))])], [qvR 0, qvK (.ofNat 4)], zh113, []),
  [((7, [qtA 4, qtN 5 0 60, qtN 6 0 60], [], [], zh114, []), 0, 0)])
noncomputable def c45_4_e : List Ct := [c34_3, c40_0, c43_0]
noncomputable def c45_4_pts : List PE := []
set_option maxRecDepth 100000 in
theorem c45_4_k : enCtF c45_4 c45_4_e (pkP (c45_4_pts ++ []) []) (none) noH 3000 = true := by decide +kernel
set_option maxRecDepth 100000 in
theorem c45_4_v : ValidC PPk c45_4 := ct_ok fpk noH_ok (d := 33) (ext := []) (pts := c45_4_pts) (env := c45_4_e) rfl (List.forall_mem_cons.mpr ⟨⟨c34_3_v, Nat.le_of_ble_eq_true rfl⟩, List.forall_mem_cons.mpr ⟨⟨c40_0_v, Nat.le_of_ble_eq_true rfl⟩, List.forall_mem_cons.mpr ⟨⟨c43_0_v, Nat.le_of_ble_eq_true rfl⟩, fun _ h => (by cases h)⟩⟩⟩) ext_nil (fun q h => (by cases h)) (enF c45_4_k) (fun _ h => (by cases h))

noncomputable def c41_8 : Ct := (41, 35, (5, [qtN 0 0 60, qtA 1, qtN 2 0 60, qtN 3 0 60, qtA 4], [((.ofNat 1), [(0, (.negSucc 0)), (2, (.ofNat 1))])], [qvR 0, qvS 4, qvK (.ofNat 4)], zh113, []),
  [((8, [qtA 5, qtN 6 0 60, qtN 7 0 60], [], [], zh116, []), 0, 0)])
noncomputable def c41_8_e : List Ct := [c42_0, c43_0, c44_0, c45_4]
noncomputable def c41_8_pts : List PE := []
set_option maxRecDepth 100000 in
theorem c41_8_k : enCtF c41_8 c41_8_e (pkP (c41_8_pts ++ []) []) (none) noH 3000 = true := by decide +kernel
set_option maxRecDepth 100000 in
theorem c41_8_v : ValidC PPk c41_8 := ct_ok fpk noH_ok (d := 34) (ext := []) (pts := c41_8_pts) (env := c41_8_e) rfl (List.forall_mem_cons.mpr ⟨⟨c42_0_v, Nat.le_of_ble_eq_true rfl⟩, List.forall_mem_cons.mpr ⟨⟨c43_0_v, Nat.le_of_ble_eq_true rfl⟩, List.forall_mem_cons.mpr ⟨⟨c44_0_v, Nat.le_of_ble_eq_true rfl⟩, List.forall_mem_cons.mpr ⟨⟨c45_4_v, Nat.le_of_ble_eq_true rfl⟩, fun _ h => (by cases h)⟩⟩⟩⟩) ext_nil (fun q h => (by cases h)) (enF c41_8_k) (fun _ h => (by cases h))

noncomputable def c41_9 : Ct := (41, 2, (6, [qtN 0 0 60, qtA 1, qtN 2 0 60, qtN 3 0 60], [], [qvR 0, qvK (.negSucc 0), qvK (.ofNat 4)], zh111, []),
  [((7, [qtA 6], [], [], zh112, []), 0, 0)])
noncomputable def c41_9_e : List Ct := [c43_0]
noncomputable def c41_9_pts : List PE := []
set_option maxRecDepth 100000 in
theorem c41_9_k : enCtF c41_9 c41_9_e (pkP (c41_9_pts ++ []) []) (none) noH 3000 = true := by decide +kernel
set_option maxRecDepth 100000 in
theorem c41_9_v : ValidC PPk c41_9 := ct_ok fpk noH_ok (d := 1) (ext := []) (pts := c41_9_pts) (env := c41_9_e) rfl (List.forall_mem_cons.mpr ⟨⟨c43_0_v, Nat.le_of_ble_eq_true rfl⟩, fun _ h => (by cases h)⟩) ext_nil (fun q h => (by cases h)) (enF c41_9_k) (fun _ h => (by cases h))

noncomputable def c39_4 : Ct := (39, 36, (4, [qtN 0 0 60, qtA 1, qtN 2 0 60, qtN 3 0 60], [], [qvR 0, qvK (.ofNat 4)], zh113, []),
  [((7, [qtA 4, qtN 5 0 60, qtN 6 0 60], [], [], zh114, []), 0, 0)])
noncomputable def c39_4_e : List Ct := [c40_0, c41_8, c41_9, c44_0]
noncomputable def c39_4_p0 : PE := (13, [0, 1, 2, 3, 4], (7, [qtN 0 1 60, (1, (.negSucc 0), (.negSucc 0)), qtN 2 0 60, qtN 3 0 60, qtN 4 0 127, qtN 5 0 60, qtN 6 0 59], [((.ofNat 1), [(0, (.negSucc 0)), (6, (.ofNat 1))])], [qvR 0, qvK (.ofNat 4), qvS 2, qvS 4, qvS 5], zh117, []), symsL 4 0, some ((.ofNat 182), [(5, (.negSucc 0))]), 0, 0)
noncomputable def c39_4_p1 : PE := (13, [0, 1, 2, 3, 4], (6, [qtN 0 0 60, qtA 1, qtN 2 0 60, qtN 3 0 60, qtN 4 0 60, qtN 5 0 60], [], [qvR 0, qvK (.ofNat 4), qvS 2, qvK (.negSucc 0), qvS 4], zh115, []), symsL 4 0, some ((.ofNat 182), [(4, (.negSucc 0))]), 0, 0)
noncomputable def c39_4_p2 : PE := (71, [0, 1, 2, 3, 4, 5], (10, [qtN 0 0 60, qtA 1, qtN 2 0 60, qtN 3 0 60, (4, (.negSucc 0), (.ofNat 127)), qtN 5 0 60, (6, (.negSucc 0), (.ofNat 59)), qtA 7, qtN 8 0 60, qtN 9 0 60], [], [qvR 0, qvK (.ofNat 4), qvS 2, qvS 4, qvS 5, qvS 6], zh118, []), symsL 4 0, some ((.ofNat 62), [(6, (.ofNat 1))]), 0, 0)
noncomputable def c39_4_pts : List PE := [c39_4_p0, c39_4_p1, c39_4_p2]
set_option maxRecDepth 100000 in
theorem c39_4_k : enCtF c39_4 c39_4_e (pkP (c39_4_pts ++ []) [1, 0]) (none) (noF, noM, 2361183241434822615040, 0, 4) 3000 = true := by decide +kernel
set_option maxRecDepth 100000 in
theorem c39_4_k0 : ptCtF c39_4 c39_4_e (pkP (c39_4_pts ++ []) [2, 1, 0]) (noF, noM, 2361183241434822615040, 0, 4) 3000 c39_4_p0 = true := by decide +kernel
set_option maxRecDepth 100000 in
theorem c39_4_k1 : ptCtF c39_4 c39_4_e (pkP (c39_4_pts ++ []) [2]) (noF, noM, 2361183241434822615040, 0, 4) 3000 c39_4_p1 = true := by decide +kernel
set_option maxRecDepth 100000 in
theorem c39_4_k2 : ptCtF c39_4 c39_4_e (pkP (c39_4_pts ++ []) [2]) (noF, noM, 2361183241434822615040, 0, 4) 3000 c39_4_p2 = true := by decide +kernel
set_option maxRecDepth 100000 in
theorem c39_4_v : ValidC PPk c39_4 := ct_ok fpk ⟨noF_ok, noM_ok⟩ (d := 35) (ext := []) (pts := c39_4_pts) (env := c39_4_e) rfl (List.forall_mem_cons.mpr ⟨⟨c40_0_v, Nat.le_of_ble_eq_true rfl⟩, List.forall_mem_cons.mpr ⟨⟨c41_8_v, Nat.le_of_ble_eq_true rfl⟩, List.forall_mem_cons.mpr ⟨⟨c41_9_v, Nat.le_of_ble_eq_true rfl⟩, List.forall_mem_cons.mpr ⟨⟨c44_0_v, Nat.le_of_ble_eq_true rfl⟩, fun _ h => (by cases h)⟩⟩⟩⟩) ext_nil (fun q h => (by cases h)) (enF c39_4_k) (List.forall_mem_cons.mpr ⟨⟨_, ptF c39_4_k0⟩, List.forall_mem_cons.mpr ⟨⟨_, ptF c39_4_k1⟩, List.forall_mem_cons.mpr ⟨⟨_, ptF c39_4_k2⟩, fun _ h => (by cases h)⟩⟩⟩)

noncomputable def c38_4 : Ct := (38, 37, (4, [qtN 0 0 60, qtA 1, qtN 2 0 60, qtN 3 0 60], [], [qvR 0, qvK (.ofNat 4)], zh113, []),
  [((7, [qtA 4, qtN 5 0 60, qtN 6 0 60], [], [], zh114, []), 0, 0)])
noncomputable def c38_4_e : List Ct := [c39_4, c40_0, c44_0]
noncomputable def c38_4_p0 : PE := (7, [0, 1, 2], (7, (zt19 []), [], [qvR 0, qvK (.ofNat 4), qvK (.ofNat 0)], zh114, []), symsL 4 0, some ((.ofNat 121), []), 0, 0)
noncomputable def c38_4_p1 : PE := (7, [0, 1, 2, 3], (9, [qtN 0 1 60, qtA 1, qtN 2 0 60, qtN 3 0 60, qtN 4 1 60, qtN 5 42 47, qtA 6, qtN 7 0 60, qtN 8 1 60], [], [qvR 0, qvK (.ofNat 4), qvS 4, qvS 5], zh119, []), symsL 4 0, some ((.ofNat 121), [(4, (.negSucc 0))]), 0, 0)
noncomputable def c38_4_pts : List PE := [c38_4_p0, c38_4_p1]
set_option maxRecDepth 100000 in
theorem c38_4_k : enCtF c38_4 c38_4_e (pkP (c38_4_pts ++ []) [0]) (none) (noF, noM, 128, 0, 4) 3000 = true := by decide +kernel
set_option maxRecDepth 100000 in
theorem c38_4_k0 : ptCtF c38_4 c38_4_e (pkP (c38_4_pts ++ []) [1]) (noF, noM, 128, 0, 4) 3000 c38_4_p0 = true := by decide +kernel
set_option maxRecDepth 100000 in
theorem c38_4_k1 : ptCtF c38_4 c38_4_e (pkP (c38_4_pts ++ []) [1]) (noF, noM, 128, 0, 4) 3000 c38_4_p1 = true := by decide +kernel
set_option maxRecDepth 100000 in
theorem c38_4_v : ValidC PPk c38_4 := ct_ok fpk ⟨noF_ok, noM_ok⟩ (d := 36) (ext := []) (pts := c38_4_pts) (env := c38_4_e) rfl (List.forall_mem_cons.mpr ⟨⟨c39_4_v, Nat.le_of_ble_eq_true rfl⟩, List.forall_mem_cons.mpr ⟨⟨c40_0_v, Nat.le_of_ble_eq_true rfl⟩, List.forall_mem_cons.mpr ⟨⟨c44_0_v, Nat.le_of_ble_eq_true rfl⟩, fun _ h => (by cases h)⟩⟩⟩) ext_nil (fun q h => (by cases h)) (enF c38_4_k) (List.forall_mem_cons.mpr ⟨⟨_, ptF c38_4_k0⟩, List.forall_mem_cons.mpr ⟨⟨_, ptF c38_4_k1⟩, fun _ h => (by cases h)⟩⟩)

noncomputable def c37_4 : Ct := (37, 38, (4, [qtN 0 0 60, qtA 1, qtN 2 0 60, qtN 3 0 60], [], [qvR 0, qvK (.ofNat 4)], zh113, []),
  [((7, [qtA 4, qtN 5 0 60, qtN 6 0 60], [], [], zh114, []), 0, 0)])
noncomputable def c37_4_e : List Ct := [c38_4, c40_0, c44_0]
noncomputable def c37_4_p0 : PE := (7, [0, 1, 2], (7, (zt19 []), [], [qvR 0, qvK (.ofNat 4), qvK (.ofNat 0)], zh114, []), symsL 4 0, some ((.ofNat 121), []), 0, 0)
noncomputable def c37_4_p1 : PE := (7, [0, 1, 2, 3], (9, [qtN 0 1 60, qtA 1, qtN 2 0 60, qtN 3 0 60, qtN 4 1 60, qtN 5 43 45, qtA 6, qtN 7 0 60, qtN 8 1 60], [], [qvR 0, qvK (.ofNat 4), qvS 4, qvS 5], zh119, []), symsL 4 0, some ((.ofNat 121), [(4, (.negSucc 0))]), 0, 0)
noncomputable def c37_4_pts : List PE := [c37_4_p0, c37_4_p1]
set_option maxRecDepth 100000 in
theorem c37_4_k : enCtF c37_4 c37_4_e (pkP (c37_4_pts ++ []) [0]) (none) (noF, noM, 128, 0, 4) 3000 = true := by decide +kernel
set_option maxRecDepth 100000 in
theorem c37_4_k0 : ptCtF c37_4 c37_4_e (pkP (c37_4_pts ++ []) [1]) (noF, noM, 128, 0, 4) 3000 c37_4_p0 = true := by decide +kernel
set_option maxRecDepth 100000 in
theorem c37_4_k1 : ptCtF c37_4 c37_4_e (pkP (c37_4_pts ++ []) [1]) (noF, noM, 128, 0, 4) 3000 c37_4_p1 = true := by decide +kernel
set_option maxRecDepth 100000 in
theorem c37_4_v : ValidC PPk c37_4 := ct_ok fpk ⟨noF_ok, noM_ok⟩ (d := 37) (ext := []) (pts := c37_4_pts) (env := c37_4_e) rfl (List.forall_mem_cons.mpr ⟨⟨c38_4_v, Nat.le_of_ble_eq_true rfl⟩, List.forall_mem_cons.mpr ⟨⟨c40_0_v, Nat.le_of_ble_eq_true rfl⟩, List.forall_mem_cons.mpr ⟨⟨c44_0_v, Nat.le_of_ble_eq_true rfl⟩, fun _ h => (by cases h)⟩⟩⟩) ext_nil (fun q h => (by cases h)) (enF c37_4_k) (List.forall_mem_cons.mpr ⟨⟨_, ptF c37_4_k0⟩, List.forall_mem_cons.mpr ⟨⟨_, ptF c37_4_k1⟩, fun _ h => (by cases h)⟩⟩)

noncomputable def c36_4 : Ct := (36, 39, (4, [qtN 0 0 60, qtA 1, qtN 2 0 60, qtN 3 0 60], [], [qvR 0, qvK (.ofNat 4)], zh113, []),
  [((7, [qtA 4, qtN 5 0 60, qtN 6 0 60], [], [], zh114, []), 0, 0)])
noncomputable def c36_4_e : List Ct := [c37_4, c40_0, c44_0]
noncomputable def c36_4_pts : List PE := []
set_option maxRecDepth 100000 in
theorem c36_4_k : enCtF c36_4 c36_4_e (pkP (c36_4_pts ++ []) []) (none) noH 3000 = true := by decide +kernel
set_option maxRecDepth 100000 in
theorem c36_4_v : ValidC PPk c36_4 := ct_ok fpk noH_ok (d := 38) (ext := []) (pts := c36_4_pts) (env := c36_4_e) rfl (List.forall_mem_cons.mpr ⟨⟨c37_4_v, Nat.le_of_ble_eq_true rfl⟩, List.forall_mem_cons.mpr ⟨⟨c40_0_v, Nat.le_of_ble_eq_true rfl⟩, List.forall_mem_cons.mpr ⟨⟨c44_0_v, Nat.le_of_ble_eq_true rfl⟩, fun _ h => (by cases h)⟩⟩⟩) ext_nil (fun q h => (by cases h)) (enF c36_4_k) (fun _ h => (by cases h))

noncomputable def c35_4 : Ct := (35, 40, (4, [qtN 0 0 60, qtA 1, qtN 2 0 60, qtN 3 0 60], [], [qvR 0, qvK (.ofNat 4)], zh113, []),
  [((7, [qtA 4, qtN 5 0 60, qtN 6 0 60], [], [], zh114, []), 0, 0)])
noncomputable def c35_4_e : List Ct := [c36_4, c40_0, c44_0]
noncomputable def c35_4_p0 : PE := (7, [0, 1, 2], (8, [qtN 0 0 60, qtA 1, qtN 2 0 60, qtN 3 0 60, qtN 4 0 60, qtA 5, qtN 6 0 60, qtN 7 0 60], [], [qvR 0, qvK (.ofNat 4), qvS 4], zh116, []), symsL 4 0, some ((.ofNat 121), [(4, (.negSucc 0))]), 0, 0)
noncomputable def c35_4_pts : List PE := [c35_4_p0]
set_option maxRecDepth 100000 in
theorem c35_4_k : enCtF c35_4 c35_4_e (pkP (c35_4_pts ++ []) [0]) (none) (noF, noM, 128, 0, 4) 3000 = true := by decide +kernel
set_option maxRecDepth 100000 in
theorem c35_4_k0 : ptCtF c35_4 c35_4_e (pkP (c35_4_pts ++ []) [0]) (noF, noM, 128, 0, 4) 3000 c35_4_p0 = true := by decide +kernel
set_option maxRecDepth 100000 in
theorem c35_4_v : ValidC PPk c35_4 := ct_ok fpk ⟨noF_ok, noM_ok⟩ (d := 39) (ext := []) (pts := c35_4_pts) (env := c35_4_e) rfl (List.forall_mem_cons.mpr ⟨⟨c36_4_v, Nat.le_of_ble_eq_true rfl⟩, List.forall_mem_cons.mpr ⟨⟨c40_0_v, Nat.le_of_ble_eq_true rfl⟩, List.forall_mem_cons.mpr ⟨⟨c44_0_v, Nat.le_of_ble_eq_true rfl⟩, fun _ h => (by cases h)⟩⟩⟩) ext_nil (fun q h => (by cases h)) (enF c35_4_k) (List.forall_mem_cons.mpr ⟨⟨_, ptF c35_4_k0⟩, fun _ h => (by cases h)⟩)

noncomputable def c34_4 : Ct := (34, 41, (4, [qtN 0 0 60, qtA 1, qtN 2 0 60, qtN 3 0 60], [], [qvR 0, qvK (.ofNat 4)], zh113, []),
  [((7, [qtA 4, qtN 5 0 60, qtN 6 0 60], [], [], zh114, []), 0, 0)])
noncomputable def c34_4_e : List Ct := [c35_4, c40_0, c44_0]
noncomputable def c34_4_p0 : PE := (7, [0, 1, 2], (8, [qtN 0 0 60, qtA 1, qtN 2 0 60, qtN 3 0 60, qtN 4 0 60, qtA 5, qtN 6 0 60, qtN 7 0 60], [], [qvR 0, qvK (.ofNat 4), qvS 4], zh116, []), symsL 4 0, some ((.ofNat 121), [(4, (.negSucc 0))]), 0, 0)
noncomputable def c34_4_pts : List PE := [c34_4_p0]
set_option maxRecDepth 100000 in
theorem c34_4_k : enCtF c34_4 c34_4_e (pkP (c34_4_pts ++ []) [0]) (none) (noF, noM, 128, 0, 4) 3000 = true := by decide +kernel
set_option maxRecDepth 100000 in
theorem c34_4_k0 : ptCtF c34_4 c34_4_e (pkP (c34_4_pts ++ []) [0]) (noF, noM, 128, 0, 4) 3000 c34_4_p0 = true := by decide +kernel
set_option maxRecDepth 100000 in
theorem c34_4_v : ValidC PPk c34_4 := ct_ok fpk ⟨noF_ok, noM_ok⟩ (d := 40) (ext := []) (pts := c34_4_pts) (env := c34_4_e) rfl (List.forall_mem_cons.mpr ⟨⟨c35_4_v, Nat.le_of_ble_eq_true rfl⟩, List.forall_mem_cons.mpr ⟨⟨c40_0_v, Nat.le_of_ble_eq_true rfl⟩, List.forall_mem_cons.mpr ⟨⟨c44_0_v, Nat.le_of_ble_eq_true rfl⟩, fun _ h => (by cases h)⟩⟩⟩) ext_nil (fun q h => (by cases h)) (enF c34_4_k) (List.forall_mem_cons.mpr ⟨⟨_, ptF c34_4_k0⟩, fun _ h => (by cases h)⟩)

noncomputable def c45_5 : Ct := (45, 42, (4, [qtN 0 0 60, qtA 1, qtN 2 0 60, qtN 3 0 60], [((.ofNat 1), [(0, (.negSucc 0)), (2, (.ofNat 1))])], [qvR 0, qvK (.ofNat 3)], zh113, []),
  [((7, [qtA 4, qtN 5 0 60, qtN 6 0 60], [], [], zh114, []), 0, 0)])
noncomputable def c45_5_e : List Ct := [c34_4, c40_0, c43_0]
noncomputable def c45_5_pts : List PE := []
set_option maxRecDepth 100000 in
theorem c45_5_k : enCtF c45_5 c45_5_e (pkP (c45_5_pts ++ []) []) (none) noH 3000 = true := by decide +kernel
set_option maxRecDepth 100000 in
theorem c45_5_v : ValidC PPk c45_5 := ct_ok fpk noH_ok (d := 41) (ext := []) (pts := c45_5_pts) (env := c45_5_e) rfl (List.forall_mem_cons.mpr ⟨⟨c34_4_v, Nat.le_of_ble_eq_true rfl⟩, List.forall_mem_cons.mpr ⟨⟨c40_0_v, Nat.le_of_ble_eq_true rfl⟩, List.forall_mem_cons.mpr ⟨⟨c43_0_v, Nat.le_of_ble_eq_true rfl⟩, fun _ h => (by cases h)⟩⟩⟩) ext_nil (fun q h => (by cases h)) (enF c45_5_k) (fun _ h => (by cases h))

noncomputable def c41_10 : Ct := (41, 43, (5, [qtN 0 0 60, qtA 1, qtN 2 0 60, qtN 3 0 60, qtA 4], [((.ofNat 1), [(0, (.negSucc 0)), (2, (.ofNat 1))])], [qvR 0, qvS 4, qvK (.ofNat 3)], zh113, []),
  [((8, [qtA 5, qtN 6 0 60, qtN 7 0 60], [], [], zh116, []), 0, 0)])
noncomputable def c41_10_e : List Ct := [c42_0, c43_0, c44_0, c45_5]
noncomputable def c41_10_pts : List PE := []
set_option maxRecDepth 100000 in
theorem c41_10_k : enCtF c41_10 c41_10_e (pkP (c41_10_pts ++ []) []) (none) noH 3000 = true := by decide +kernel
set_option maxRecDepth 100000 in
theorem c41_10_v : ValidC PPk c41_10 := ct_ok fpk noH_ok (d := 42) (ext := []) (pts := c41_10_pts) (env := c41_10_e) rfl (List.forall_mem_cons.mpr ⟨⟨c42_0_v, Nat.le_of_ble_eq_true rfl⟩, List.forall_mem_cons.mpr ⟨⟨c43_0_v, Nat.le_of_ble_eq_true rfl⟩, List.forall_mem_cons.mpr ⟨⟨c44_0_v, Nat.le_of_ble_eq_true rfl⟩, List.forall_mem_cons.mpr ⟨⟨c45_5_v, Nat.le_of_ble_eq_true rfl⟩, fun _ h => (by cases h)⟩⟩⟩⟩) ext_nil (fun q h => (by cases h)) (enF c41_10_k) (fun _ h => (by cases h))

noncomputable def c41_11 : Ct := (41, 2, (6, [qtN 0 0 60, qtA 1, qtN 2 0 60, qtN 3 0 60], [], [qvR 0, qvK (.negSucc 0), qvK (.ofNat 3)], zh111, []),
  [((7, [qtA 6], [], [], zh112, []), 0, 0)])
noncomputable def c41_11_e : List Ct := [c43_0]
noncomputable def c41_11_pts : List PE := []
set_option maxRecDepth 100000 in
theorem c41_11_k : enCtF c41_11 c41_11_e (pkP (c41_11_pts ++ []) []) (none) noH 3000 = true := by decide +kernel
set_option maxRecDepth 100000 in
theorem c41_11_v : ValidC PPk c41_11 := ct_ok fpk noH_ok (d := 1) (ext := []) (pts := c41_11_pts) (env := c41_11_e) rfl (List.forall_mem_cons.mpr ⟨⟨c43_0_v, Nat.le_of_ble_eq_true rfl⟩, fun _ h => (by cases h)⟩) ext_nil (fun q h => (by cases h)) (enF c41_11_k) (fun _ h => (by cases h))

noncomputable def c39_5 : Ct := (39, 44, (4, [qtN 0 0 60, qtA 1, qtN 2 0 60, qtN 3 0 60], [], [qvR 0, qvK (.ofNat 3)], zh113, []),
  [((7, [qtA 4, qtN 5 0 60, qtN 6 0 60], [], [], zh114, []), 0, 0)])
noncomputable def c39_5_e : List Ct := [c40_0, c41_10, c41_11, c44_0]
noncomputable def c39_5_p0 : PE := (13, [0, 1, 2, 3, 4], (7, [qtN 0 1 60, (1, (.negSucc 0), (.negSucc 0)), qtN 2 0 60, qtN 3 0 60, qtN 4 0 127, qtN 5 0 60, qtN 6 0 59], [((.ofNat 1), [(0, (.negSucc 0)), (6, (.ofNat 1))])], [qvR 0, qvK (.ofNat 3), qvS 2, qvS 4, qvS 5], zh117, []), symsL 4 0, some ((.ofNat 182), [(5, (.negSucc 0))]), 0, 0)
noncomputable def c39_5_p1 : PE := (13, [0, 1, 2, 3, 4], (6, [qtN 0 0 60, qtA 1, qtN 2 0 60, qtN 3 0 60, qtN 4 0 60, qtN 5 0 60], [], [qvR 0, qvK (.ofNat 3), qvS 2, qvK (.negSucc 0), qvS 4], zh115, []), symsL 4 0, some ((.ofNat 182), [(4, (.negSucc 0))]), 0, 0)
noncomputable def c39_5_p2 : PE := (71, [0, 1, 2, 3, 4, 5], (10, [qtN 0 0 60, qtA 1, qtN 2 0 60, qtN 3 0 60, (4, (.negSucc 0), (.ofNat 127)), qtN 5 0 60, (6, (.negSucc 0), (.ofNat 59)), qtA 7, qtN 8 0 60, qtN 9 0 60], [], [qvR 0, qvK (.ofNat 3), qvS 2, qvS 4, qvS 5, qvS 6], zh118, []), symsL 4 0, some ((.ofNat 62), [(6, (.ofNat 1))]), 0, 0)
noncomputable def c39_5_pts : List PE := [c39_5_p0, c39_5_p1, c39_5_p2]
set_option maxRecDepth 100000 in
theorem c39_5_k : enCtF c39_5 c39_5_e (pkP (c39_5_pts ++ []) [1, 0]) (none) (noF, noM, 2361183241434822615040, 0, 4) 3000 = true := by decide +kernel
set_option maxRecDepth 100000 in
theorem c39_5_k0 : ptCtF c39_5 c39_5_e (pkP (c39_5_pts ++ []) [2, 1, 0]) (noF, noM, 2361183241434822615040, 0, 4) 3000 c39_5_p0 = true := by decide +kernel
set_option maxRecDepth 100000 in
theorem c39_5_k1 : ptCtF c39_5 c39_5_e (pkP (c39_5_pts ++ []) [2]) (noF, noM, 2361183241434822615040, 0, 4) 3000 c39_5_p1 = true := by decide +kernel
set_option maxRecDepth 100000 in
theorem c39_5_k2 : ptCtF c39_5 c39_5_e (pkP (c39_5_pts ++ []) [2]) (noF, noM, 2361183241434822615040, 0, 4) 3000 c39_5_p2 = true := by decide +kernel
set_option maxRecDepth 100000 in
theorem c39_5_v : ValidC PPk c39_5 := ct_ok fpk ⟨noF_ok, noM_ok⟩ (d := 43) (ext := []) (pts := c39_5_pts) (env := c39_5_e) rfl (List.forall_mem_cons.mpr ⟨⟨c40_0_v, Nat.le_of_ble_eq_true rfl⟩, List.forall_mem_cons.mpr ⟨⟨c41_10_v, Nat.le_of_ble_eq_true rfl⟩, List.forall_mem_cons.mpr ⟨⟨c41_11_v, Nat.le_of_ble_eq_true rfl⟩, List.forall_mem_cons.mpr ⟨⟨c44_0_v, Nat.le_of_ble_eq_true rfl⟩, fun _ h => (by cases h)⟩⟩⟩⟩) ext_nil (fun q h => (by cases h)) (enF c39_5_k) (List.forall_mem_cons.mpr ⟨⟨_, ptF c39_5_k0⟩, List.forall_mem_cons.mpr ⟨⟨_, ptF c39_5_k1⟩, List.forall_mem_cons.mpr ⟨⟨_, ptF c39_5_k2⟩, fun _ h => (by cases h)⟩⟩⟩)

noncomputable def c38_5 : Ct := (38, 45, (4, [qtN 0 0 60, qtA 1, qtN 2 0 60, qtN 3 0 60], [], [qvR 0, qvK (.ofNat 3)], zh113, []),
  [((7, [qtA 4, qtN 5 0 60, qtN 6 0 60], [], [], zh114, []), 0, 0)])
noncomputable def c38_5_e : List Ct := [c39_5, c40_0, c44_0]
noncomputable def c38_5_p0 : PE := (7, [0, 1, 2], (7, (zt19 []), [], [qvR 0, qvK (.ofNat 3), qvK (.ofNat 0)], zh114, []), symsL 4 0, some ((.ofNat 121), []), 0, 0)
noncomputable def c38_5_p1 : PE := (7, [0, 1, 2, 3], (9, [qtN 0 1 60, qtA 1, qtN 2 0 60, qtN 3 0 60, qtN 4 1 60, qtN 5 42 47, qtA 6, qtN 7 0 60, qtN 8 1 60], [], [qvR 0, qvK (.ofNat 3), qvS 4, qvS 5], zh119, []), symsL 4 0, some ((.ofNat 121), [(4, (.negSucc 0))]), 0, 0)
noncomputable def c38_5_pts : List PE := [c38_5_p0, c38_5_p1]
set_option maxRecDepth 100000 in
theorem c38_5_k : enCtF c38_5 c38_5_e (pkP (c38_5_pts ++ []) [0]) (none) (noF, noM, 128, 0, 4) 3000 = true := by decide +kernel
set_option maxRecDepth 100000 in
theorem c38_5_k0 : ptCtF c38_5 c38_5_e (pkP (c38_5_pts ++ []) [1]) (noF, noM, 128, 0, 4) 3000 c38_5_p0 = true := by decide +kernel
set_option maxRecDepth 100000 in
theorem c38_5_k1 : ptCtF c38_5 c38_5_e (pkP (c38_5_pts ++ []) [1]) (noF, noM, 128, 0, 4) 3000 c38_5_p1 = true := by decide +kernel
set_option maxRecDepth 100000 in
theorem c38_5_v : ValidC PPk c38_5 := ct_ok fpk ⟨noF_ok, noM_ok⟩ (d := 44) (ext := []) (pts := c38_5_pts) (env := c38_5_e) rfl (List.forall_mem_cons.mpr ⟨⟨c39_5_v, Nat.le_of_ble_eq_true rfl⟩, List.forall_mem_cons.mpr ⟨⟨c40_0_v, Nat.le_of_ble_eq_true rfl⟩, List.forall_mem_cons.mpr ⟨⟨c44_0_v, Nat.le_of_ble_eq_true rfl⟩, fun _ h => (by cases h)⟩⟩⟩) ext_nil (fun q h => (by cases h)) (enF c38_5_k) (List.forall_mem_cons.mpr ⟨⟨_, ptF c38_5_k0⟩, List.forall_mem_cons.mpr ⟨⟨_, ptF c38_5_k1⟩, fun _ h => (by cases h)⟩⟩)

noncomputable def c37_5 : Ct := (37, 46, (4, [qtN 0 0 60, qtA 1, qtN 2 0 60, qtN 3 0 60], [], [qvR 0, qvK (.ofNat 3)], zh113, []),
  [((7, [qtA 4, qtN 5 0 60, qtN 6 0 60], [], [], zh114, []), 0, 0)])
noncomputable def c37_5_e : List Ct := [c38_5, c40_0, c44_0]
noncomputable def c37_5_p0 : PE := (7, [0, 1, 2], (7, (zt19 []), [], [qvR 0, qvK (.ofNat 3), qvK (.ofNat 0)], zh114, []), symsL 4 0, some ((.ofNat 121), []), 0, 0)
noncomputable def c37_5_p1 : PE := (7, [0, 1, 2, 3], (9, [qtN 0 1 60, qtA 1, qtN 2 0 60, qtN 3 0 60, qtN 4 1 60, qtN 5 43 45, qtA 6, qtN 7 0 60, qtN 8 1 60], [], [qvR 0, qvK (.ofNat 3), qvS 4, qvS 5], zh119, []), symsL 4 0, some ((.ofNat 121), [(4, (.negSucc 0))]), 0, 0)
noncomputable def c37_5_pts : List PE := [c37_5_p0, c37_5_p1]
set_option maxRecDepth 100000 in
theorem c37_5_k : enCtF c37_5 c37_5_e (pkP (c37_5_pts ++ []) [0]) (none) (noF, noM, 128, 0, 4) 3000 = true := by decide +kernel
set_option maxRecDepth 100000 in
theorem c37_5_k0 : ptCtF c37_5 c37_5_e (pkP (c37_5_pts ++ []) [1]) (noF, noM, 128, 0, 4) 3000 c37_5_p0 = true := by decide +kernel
set_option maxRecDepth 100000 in
theorem c37_5_k1 : ptCtF c37_5 c37_5_e (pkP (c37_5_pts ++ []) [1]) (noF, noM, 128, 0, 4) 3000 c37_5_p1 = true := by decide +kernel
set_option maxRecDepth 100000 in
theorem c37_5_v : ValidC PPk c37_5 := ct_ok fpk ⟨noF_ok, noM_ok⟩ (d := 45) (ext := []) (pts := c37_5_pts) (env := c37_5_e) rfl (List.forall_mem_cons.mpr ⟨⟨c38_5_v, Nat.le_of_ble_eq_true rfl⟩, List.forall_mem_cons.mpr ⟨⟨c40_0_v, Nat.le_of_ble_eq_true rfl⟩, List.forall_mem_cons.mpr ⟨⟨c44_0_v, Nat.le_of_ble_eq_true rfl⟩, fun _ h => (by cases h)⟩⟩⟩) ext_nil (fun q h => (by cases h)) (enF c37_5_k) (List.forall_mem_cons.mpr ⟨⟨_, ptF c37_5_k0⟩, List.forall_mem_cons.mpr ⟨⟨_, ptF c37_5_k1⟩, fun _ h => (by cases h)⟩⟩)

noncomputable def c36_5 : Ct := (36, 47, (4, [qtN 0 0 60, qtA 1, qtN 2 0 60, qtN 3 0 60], [], [qvR 0, qvK (.ofNat 3)], zh113, []),
  [((7, [qtA 4, qtN 5 0 60, qtN 6 0 60], [], [], zh114, []), 0, 0)])
noncomputable def c36_5_e : List Ct := [c37_5, c40_0, c44_0]
noncomputable def c36_5_pts : List PE := []
set_option maxRecDepth 100000 in
theorem c36_5_k : enCtF c36_5 c36_5_e (pkP (c36_5_pts ++ []) []) (none) noH 3000 = true := by decide +kernel
set_option maxRecDepth 100000 in
theorem c36_5_v : ValidC PPk c36_5 := ct_ok fpk noH_ok (d := 46) (ext := []) (pts := c36_5_pts) (env := c36_5_e) rfl (List.forall_mem_cons.mpr ⟨⟨c37_5_v, Nat.le_of_ble_eq_true rfl⟩, List.forall_mem_cons.mpr ⟨⟨c40_0_v, Nat.le_of_ble_eq_true rfl⟩, List.forall_mem_cons.mpr ⟨⟨c44_0_v, Nat.le_of_ble_eq_true rfl⟩, fun _ h => (by cases h)⟩⟩⟩) ext_nil (fun q h => (by cases h)) (enF c36_5_k) (fun _ h => (by cases h))

noncomputable def c35_5 : Ct := (35, 48, (4, [qtN 0 0 60, qtA 1, qtN 2 0 60, qtN 3 0 60], [], [qvR 0, qvK (.ofNat 3)], zh113, []),
  [((7, [qtA 4, qtN 5 0 60, qtN 6 0 60], [], [], zh114, []), 0, 0)])
noncomputable def c35_5_e : List Ct := [c36_5, c40_0, c44_0]
noncomputable def c35_5_p0 : PE := (7, [0, 1, 2], (8, [qtN 0 0 60, qtA 1, qtN 2 0 60, qtN 3 0 60, qtN 4 0 60, qtA 5, qtN 6 0 60, qtN 7 0 60], [], [qvR 0, qvK (.ofNat 3), qvS 4], zh116, []), symsL 4 0, some ((.ofNat 121), [(4, (.negSucc 0))]), 0, 0)
noncomputable def c35_5_pts : List PE := [c35_5_p0]
set_option maxRecDepth 100000 in
theorem c35_5_k : enCtF c35_5 c35_5_e (pkP (c35_5_pts ++ []) [0]) (none) (noF, noM, 128, 0, 4) 3000 = true := by decide +kernel
set_option maxRecDepth 100000 in
theorem c35_5_k0 : ptCtF c35_5 c35_5_e (pkP (c35_5_pts ++ []) [0]) (noF, noM, 128, 0, 4) 3000 c35_5_p0 = true := by decide +kernel
set_option maxRecDepth 100000 in
theorem c35_5_v : ValidC PPk c35_5 := ct_ok fpk ⟨noF_ok, noM_ok⟩ (d := 47) (ext := []) (pts := c35_5_pts) (env := c35_5_e) rfl (List.forall_mem_cons.mpr ⟨⟨c36_5_v, Nat.le_of_ble_eq_true rfl⟩, List.forall_mem_cons.mpr ⟨⟨c40_0_v, Nat.le_of_ble_eq_true rfl⟩, List.forall_mem_cons.mpr ⟨⟨c44_0_v, Nat.le_of_ble_eq_true rfl⟩, fun _ h => (by cases h)⟩⟩⟩) ext_nil (fun q h => (by cases h)) (enF c35_5_k) (List.forall_mem_cons.mpr ⟨⟨_, ptF c35_5_k0⟩, fun _ h => (by cases h)⟩)

noncomputable def c34_5 : Ct := (34, 49, (4, [qtN 0 0 60, qtA 1, qtN 2 0 60, qtN 3 0 60], [], [qvR 0, qvK (.ofNat 3)], zh113, []),
  [((7, [qtA 4, qtN 5 0 60, qtN 6 0 60], [], [], zh114, []), 0, 0)])
noncomputable def c34_5_e : List Ct := [c35_5, c40_0, c44_0]
noncomputable def c34_5_p0 : PE := (7, [0, 1, 2], (8, [qtN 0 0 60, qtA 1, qtN 2 0 60, qtN 3 0 60, qtN 4 0 60, qtA 5, qtN 6 0 60, qtN 7 0 60], [], [qvR 0, qvK (.ofNat 3), qvS 4], zh116, []), symsL 4 0, some ((.ofNat 121), [(4, (.negSucc 0))]), 0, 0)
noncomputable def c34_5_pts : List PE := [c34_5_p0]
set_option maxRecDepth 100000 in
theorem c34_5_k : enCtF c34_5 c34_5_e (pkP (c34_5_pts ++ []) [0]) (none) (noF, noM, 128, 0, 4) 3000 = true := by decide +kernel
set_option maxRecDepth 100000 in
theorem c34_5_k0 : ptCtF c34_5 c34_5_e (pkP (c34_5_pts ++ []) [0]) (noF, noM, 128, 0, 4) 3000 c34_5_p0 = true := by decide +kernel
set_option maxRecDepth 100000 in
theorem c34_5_v : ValidC PPk c34_5 := ct_ok fpk ⟨noF_ok, noM_ok⟩ (d := 48) (ext := []) (pts := c34_5_pts) (env := c34_5_e) rfl (List.forall_mem_cons.mpr ⟨⟨c35_5_v, Nat.le_of_ble_eq_true rfl⟩, List.forall_mem_cons.mpr ⟨⟨c40_0_v, Nat.le_of_ble_eq_true rfl⟩, List.forall_mem_cons.mpr ⟨⟨c44_0_v, Nat.le_of_ble_eq_true rfl⟩, fun _ h => (by cases h)⟩⟩⟩) ext_nil (fun q h => (by cases h)) (enF c34_5_k) (List.forall_mem_cons.mpr ⟨⟨_, ptF c34_5_k0⟩, fun _ h => (by cases h)⟩)

noncomputable def c45_6 : Ct := (45, 50, (4, [qtN 0 0 60, qtA 1, qtN 2 0 60, qtN 3 0 60], [((.ofNat 1), [(0, (.negSucc 0)), (2, (.ofNat 1))])], [qvR 0, qvK (.ofNat 2)], zh113, []),
  [((7, [qtA 4, qtN 5 0 60, qtN 6 0 60], [], [], zh114, []), 0, 0)])
noncomputable def c45_6_e : List Ct := [c34_5, c40_0, c43_0]
noncomputable def c45_6_pts : List PE := []
set_option maxRecDepth 100000 in
theorem c45_6_k : enCtF c45_6 c45_6_e (pkP (c45_6_pts ++ []) []) (none) noH 3000 = true := by decide +kernel
set_option maxRecDepth 100000 in
theorem c45_6_v : ValidC PPk c45_6 := ct_ok fpk noH_ok (d := 49) (ext := []) (pts := c45_6_pts) (env := c45_6_e) rfl (List.forall_mem_cons.mpr ⟨⟨c34_5_v, Nat.le_of_ble_eq_true rfl⟩, List.forall_mem_cons.mpr ⟨⟨c40_0_v, Nat.le_of_ble_eq_true rfl⟩, List.forall_mem_cons.mpr ⟨⟨c43_0_v, Nat.le_of_ble_eq_true rfl⟩, fun _ h => (by cases h)⟩⟩⟩) ext_nil (fun q h => (by cases h)) (enF c45_6_k) (fun _ h => (by cases h))

noncomputable def c41_12 : Ct := (41, 51, (5, [qtN 0 0 60, qtA 1, qtN 2 0 60, qtN 3 0 60, qtA 4], [((.ofNat 1), [(0, (.negSucc 0)), (2, (.ofNat 1))])], [qvR 0, qvS 4, qvK (.ofNat 2)], zh113, []),
  [((8, [qtA 5, qtN 6 0 60, qtN 7 0 60], [], [], zh116, []), 0, 0)])
noncomputable def c41_12_e : List Ct := [c42_0, c43_0, c44_0, c45_6]
noncomputable def c41_12_pts : List PE := []
set_option maxRecDepth 100000 in
theorem c41_12_k : enCtF c41_12 c41_12_e (pkP (c41_12_pts ++ []) []) (none) noH 3000 = true := by decide +kernel
set_option maxRecDepth 100000 in
theorem c41_12_v : ValidC PPk c41_12 := ct_ok fpk noH_ok (d := 50) (ext := []) (pts := c41_12_pts) (env := c41_12_e) rfl (List.forall_mem_cons.mpr ⟨⟨c42_0_v, Nat.le_of_ble_eq_true rfl⟩, List.forall_mem_cons.mpr ⟨⟨c43_0_v, Nat.le_of_ble_eq_true rfl⟩, List.forall_mem_cons.mpr ⟨⟨c44_0_v, Nat.le_of_ble_eq_true rfl⟩, List.forall_mem_cons.mpr ⟨⟨c45_6_v, Nat.le_of_ble_eq_true rfl⟩, fun _ h => (by cases h)⟩⟩⟩⟩) ext_nil (fun q h => (by cases h)) (enF c41_12_k) (fun _ h => (by cases h))

noncomputable def c41_13 : Ct := (41, 2, (6, [qtN 0 0 60, qtA 1, qtN 2 0 60, qtN 3 0 60], [], [qvR 0, qvK (.negSucc 0), qvK (.ofNat 2)], zh111, []),
  [((7, [qtA 6], [], [], zh112, []), 0, 0)])
noncomputable def c41_13_e : List Ct := [c43_0]
noncomputable def c41_13_pts : List PE := []
set_option maxRecDepth 100000 in
theorem c41_13_k : enCtF c41_13 c41_13_e (pkP (c41_13_pts ++ []) []) (none) noH 3000 = true := by decide +kernel
set_option maxRecDepth 100000 in
theorem c41_13_v : ValidC PPk c41_13 := ct_ok fpk noH_ok (d := 1) (ext := []) (pts := c41_13_pts) (env := c41_13_e) rfl (List.forall_mem_cons.mpr ⟨⟨c43_0_v, Nat.le_of_ble_eq_true rfl⟩, fun _ h => (by cases h)⟩) ext_nil (fun q h => (by cases h)) (enF c41_13_k) (fun _ h => (by cases h))

noncomputable def c39_6 : Ct := (39, 52, (4, [qtN 0 0 60, qtA 1, qtN 2 0 60, qtN 3 0 60], [], [qvR 0, qvK (.ofNat 2)], zh113, []),
  [((7, [qtA 4, qtN 5 0 60, qtN 6 0 60], [], [], zh114, []), 0, 0)])
noncomputable def c39_6_e : List Ct := [c40_0, c41_12, c41_13, c44_0]
noncomputable def c39_6_p0 : PE := (13, [0, 1, 2, 3, 4], (7, [qtN 0 1 60, (1, (.negSucc 0), (.negSucc 0)), qtN 2 0 60, qtN 3 0 60, qtN 4 0 127, qtN 5 0 60, qtN 6 0 59], [((.ofNat 1), [(0, (.negSucc 0)), (6, (.ofNat 1))])], [qvR 0, qvK (.ofNat 2), qvS 2, qvS 4, qvS 5], zh117, []), symsL 4 0, some ((.ofNat 182), [(5, (.negSucc 0))]), 0, 0)
noncomputable def c39_6_p1 : PE := (13, [0, 1, 2, 3, 4], (6, [qtN 0 0 60, qtA 1, qtN 2 0 60, qtN 3 0 60, qtN 4 0 60, qtN 5 0 60], [], [qvR 0, qvK (.ofNat 2), qvS 2, qvK (.negSucc 0), qvS 4], zh115, []), symsL 4 0, some ((.ofNat 182), [(4, (.negSucc 0))]), 0, 0)
noncomputable def c39_6_p2 : PE := (71, [0, 1, 2, 3, 4, 5], (10, [qtN 0 0 60, qtA 1, qtN 2 0 60, qtN 3 0 60, (4, (.negSucc 0), (.ofNat 127)), qtN 5 0 60, (6, (.negSucc 0), (.ofNat 59)), qtA 7, qtN 8 0 60, qtN 9 0 60], [], [qvR 0, qvK (.ofNat 2), qvS 2, qvS 4, qvS 5, qvS 6], zh118, []), symsL 4 0, some ((.ofNat 62), [(6, (.ofNat 1))]), 0, 0)
noncomputable def c39_6_pts : List PE := [c39_6_p0, c39_6_p1, c39_6_p2]
set_option maxRecDepth 100000 in
theorem c39_6_k : enCtF c39_6 c39_6_e (pkP (c39_6_pts ++ []) [1, 0]) (none) (noF, noM, 2361183241434822615040, 0, 4) 3000 = true := by decide +kernel
set_option maxRecDepth 100000 in
theorem c39_6_k0 : ptCtF c39_6 c39_6_e (pkP (c39_6_pts ++ []) [2, 1, 0]) (noF, noM, 2361183241434822615040, 0, 4) 3000 c39_6_p0 = true := by decide +kernel
set_option maxRecDepth 100000 in
theorem c39_6_k1 : ptCtF c39_6 c39_6_e (pkP (c39_6_pts ++ []) [2]) (noF, noM, 2361183241434822615040, 0, 4) 3000 c39_6_p1 = true := by decide +kernel
set_option maxRecDepth 100000 in
theorem c39_6_k2 : ptCtF c39_6 c39_6_e (pkP (c39_6_pts ++ []) [2]) (noF, noM, 2361183241434822615040, 0, 4) 3000 c39_6_p2 = true := by decide +kernel
set_option maxRecDepth 100000 in
theorem c39_6_v : ValidC PPk c39_6 := ct_ok fpk ⟨noF_ok, noM_ok⟩ (d := 51) (ext := []) (pts := c39_6_pts) (env := c39_6_e) rfl (List.forall_mem_cons.mpr ⟨⟨c40_0_v, Nat.le_of_ble_eq_true rfl⟩, List.forall_mem_cons.mpr ⟨⟨c41_12_v, Nat.le_of_ble_eq_true rfl⟩, List.forall_mem_cons.mpr ⟨⟨c41_13_v, Nat.le_of_ble_eq_true rfl⟩, List.forall_mem_cons.mpr ⟨⟨c44_0_v, Nat.le_of_ble_eq_true rfl⟩, fun _ h => (by cases h)⟩⟩⟩⟩) ext_nil (fun q h => (by cases h)) (enF c39_6_k) (List.forall_mem_cons.mpr ⟨⟨_, ptF c39_6_k0⟩, List.forall_mem_cons.mpr ⟨⟨_, ptF c39_6_k1⟩, List.forall_mem_cons.mpr ⟨⟨_, ptF c39_6_k2⟩, fun _ h => (by cases h)⟩⟩⟩)

noncomputable def c38_6 : Ct := (38, 53, (4, [qtN 0 0 60, qtA 1, qtN 2 0 60, qtN 3 0 60], [], [qvR 0, qvK (.ofNat 2)], zh113, []),
  [((7, [qtA 4, qtN 5 0 60, qtN 6 0 60], [], [], zh114, []), 0, 0)])
noncomputable def c38_6_e : List Ct := [c39_6, c40_0, c44_0]
noncomputable def c38_6_p0 : PE := (7, [0, 1, 2], (7, (zt19 []), [], [qvR 0, qvK (.ofNat 2), qvK (.ofNat 0)], zh114, []), symsL 4 0, some ((.ofNat 121), []), 0, 0)
noncomputable def c38_6_p1 : PE := (7, [0, 1, 2, 3], (9, [qtN 0 1 60, qtA 1, qtN 2 0 60, qtN 3 0 60, qtN 4 1 60, qtN 5 42 47, qtA 6, qtN 7 0 60, qtN 8 1 60], [], [qvR 0, qvK (.ofNat 2), qvS 4, qvS 5], zh119, []), symsL 4 0, some ((.ofNat 121), [(4, (.negSucc 0))]), 0, 0)
noncomputable def c38_6_pts : List PE := [c38_6_p0, c38_6_p1]
set_option maxRecDepth 100000 in
theorem c38_6_k : enCtF c38_6 c38_6_e (pkP (c38_6_pts ++ []) [0]) (none) (noF, noM, 128, 0, 4) 3000 = true := by decide +kernel
set_option maxRecDepth 100000 in
theorem c38_6_k0 : ptCtF c38_6 c38_6_e (pkP (c38_6_pts ++ []) [1]) (noF, noM, 128, 0, 4) 3000 c38_6_p0 = true := by decide +kernel
set_option maxRecDepth 100000 in
theorem c38_6_k1 : ptCtF c38_6 c38_6_e (pkP (c38_6_pts ++ []) [1]) (noF, noM, 128, 0, 4) 3000 c38_6_p1 = true := by decide +kernel
set_option maxRecDepth 100000 in
theorem c38_6_v : ValidC PPk c38_6 := ct_ok fpk ⟨noF_ok, noM_ok⟩ (d := 52) (ext := []) (pts := c38_6_pts) (env := c38_6_e) rfl (List.forall_mem_cons.mpr ⟨⟨c39_6_v, Nat.le_of_ble_eq_true rfl⟩, List.forall_mem_cons.mpr ⟨⟨c40_0_v, Nat.le_of_ble_eq_true rfl⟩, List.forall_mem_cons.mpr ⟨⟨c44_0_v, Nat.le_of_ble_eq_true rfl⟩, fun _ h => (by cases h)⟩⟩⟩) ext_nil (fun q h => (by cases h)) (enF c38_6_k) (List.forall_mem_cons.mpr ⟨⟨_, ptF c38_6_k0⟩, List.forall_mem_cons.mpr ⟨⟨_, ptF c38_6_k1⟩, fun _ h => (by cases h)⟩⟩)

noncomputable def c37_6 : Ct := (37, 54, (4, [qtN 0 0 60, qtA 1, qtN 2 0 60, qtN 3 0 60], [], [qvR 0, qvK (.ofNat 2)], zh113, []),
  [((7, [qtA 4, qtN 5 0 60, qtN 6 0 60], [], [], zh114, []), 0, 0)])
noncomputable def c37_6_e : List Ct := [c38_6, c40_0, c44_0]
noncomputable def c37_6_p0 : PE := (7, [0, 1, 2], (7, (zt19 []), [], [qvR 0, qvK (.ofNat 2), qvK (.ofNat 0)], zh114, []), symsL 4 0, some ((.ofNat 121), []), 0, 0)
noncomputable def c37_6_p1 : PE := (7, [0, 1, 2, 3], (9, [qtN 0 1 60, qtA 1, qtN 2 0 60, qtN 3 0 60, qtN 4 1 60, qtN 5 43 45, qtA 6, qtN 7 0 60, qtN 8 1 60], [], [qvR 0, qvK (.ofNat 2), qvS 4, qvS 5], zh119, []), symsL 4 0, some ((.ofNat 121), [(4, (.negSucc 0))]), 0, 0)
noncomputable def c37_6_pts : List PE := [c37_6_p0, c37_6_p1]
set_option maxRecDepth 100000 in
theorem c37_6_k : enCtF c37_6 c37_6_e (pkP (c37_6_pts ++ []) [0]) (none) (noF, noM, 128, 0, 4) 3000 = true := by decide +kernel
set_option maxRecDepth 100000 in
theorem c37_6_k0 : ptCtF c37_6 c37_6_e (pkP (c37_6_pts ++ []) [1]) (noF, noM, 128, 0, 4) 3000 c37_6_p0 = true := by decide +kernel
set_option maxRecDepth 100000 in
theorem c37_6_k1 : ptCtF c37_6 c37_6_e (pkP (c37_6_pts ++ []) [1]) (noF, noM, 128, 0, 4) 3000 c37_6_p1 = true := by decide +kernel
set_option maxRecDepth 100000 in
theorem c37_6_v : ValidC PPk c37_6 := ct_ok fpk ⟨noF_ok, noM_ok⟩ (d := 53) (ext := []) (pts := c37_6_pts) (env := c37_6_e) rfl (List.forall_mem_cons.mpr ⟨⟨c38_6_v, Nat.le_of_ble_eq_true rfl⟩, List.forall_mem_cons.mpr ⟨⟨c40_0_v, Nat.le_of_ble_eq_true rfl⟩, List.forall_mem_cons.mpr ⟨⟨c44_0_v, Nat.le_of_ble_eq_true rfl⟩, fun _ h => (by cases h)⟩⟩⟩) ext_nil (fun q h => (by cases h)) (enF c37_6_k) (List.forall_mem_cons.mpr ⟨⟨_, ptF c37_6_k0⟩, List.forall_mem_cons.mpr ⟨⟨_, ptF c37_6_k1⟩, fun _ h => (by cases h)⟩⟩)

noncomputable def c36_6 : Ct := (36, 55, (4, [qtN 0 0 60, qtA 1, qtN 2 0 60, qtN 3 0 60], [], [qvR 0, qvK (.ofNat 2)], zh113, []),
  [((7, [qtA 4, qtN 5 0 60, qtN 6 0 60], [], [], zh114, []), 0, 0)])
noncomputable def c36_6_e : List Ct := [c37_6, c40_0, c44_0]
noncomputable def c36_6_pts : List PE := []
set_option maxRecDepth 100000 in
theorem c36_6_k : enCtF c36_6 c36_6_e (pkP (c36_6_pts ++ []) []) (none) noH 3000 = true := by decide +kernel
set_option maxRecDepth 100000 in
theorem c36_6_v : ValidC PPk c36_6 := ct_ok fpk noH_ok (d := 54) (ext := []) (pts := c36_6_pts) (env := c36_6_e) rfl (List.forall_mem_cons.mpr ⟨⟨c37_6_v, Nat.le_of_ble_eq_true rfl⟩, List.forall_mem_cons.mpr ⟨⟨c40_0_v, Nat.le_of_ble_eq_true rfl⟩, List.forall_mem_cons.mpr ⟨⟨c44_0_v, Nat.le_of_ble_eq_true rfl⟩, fun _ h => (by cases h)⟩⟩⟩) ext_nil (fun q h => (by cases h)) (enF c36_6_k) (fun _ h => (by cases h))

noncomputable def c35_6 : Ct := (35, 56, (4, [qtN 0 0 60, qtA 1, qtN 2 0 60, qtN 3 0 60], [], [qvR 0, qvK (.ofNat 2)], zh113, []),
  [((7, [qtA 4, qtN 5 0 60, qtN 6 0 60], [], [], zh114, []), 0, 0)])
noncomputable def c35_6_e : List Ct := [c36_6, c40_0, c44_0]
noncomputable def c35_6_p0 : PE := (7, [0, 1, 2], (8, [qtN 0 0 60, qtA 1, qtN 2 0 60, qtN 3 0 60, qtN 4 0 60, qtA 5, qtN 6 0 60, qtN 7 0 60], [], [qvR 0, qvK (.ofNat 2), qvS 4], zh116, []), symsL 4 0, some ((.ofNat 121), [(4, (.negSucc 0))]), 0, 0)
noncomputable def c35_6_pts : List PE := [c35_6_p0]
set_option maxRecDepth 100000 in
theorem c35_6_k : enCtF c35_6 c35_6_e (pkP (c35_6_pts ++ []) [0]) (none) (noF, noM, 128, 0, 4) 3000 = true := by decide +kernel
set_option maxRecDepth 100000 in
theorem c35_6_k0 : ptCtF c35_6 c35_6_e (pkP (c35_6_pts ++ []) [0]) (noF, noM, 128, 0, 4) 3000 c35_6_p0 = true := by decide +kernel
set_option maxRecDepth 100000 in
theorem c35_6_v : ValidC PPk c35_6 := ct_ok fpk ⟨noF_ok, noM_ok⟩ (d := 55) (ext := []) (pts := c35_6_pts) (env := c35_6_e) rfl (List.forall_mem_cons.mpr ⟨⟨c36_6_v, Nat.le_of_ble_eq_true rfl⟩, List.forall_mem_cons.mpr ⟨⟨c40_0_v, Nat.le_of_ble_eq_true rfl⟩, List.forall_mem_cons.mpr ⟨⟨c44_0_v, Nat.le_of_ble_eq_true rfl⟩, fun _ h => (by cases h)⟩⟩⟩) ext_nil (fun q h => (by cases h)) (enF c35_6_k) (List.forall_mem_cons.mpr ⟨⟨_, ptF c35_6_k0⟩, fun _ h => (by cases h)⟩)

noncomputable def c34_6 : Ct := (34, 57, (4, [qtN 0 0 60, qtA 1, qtN 2 0 60, qtN 3 0 60], [], [qvR 0, qvK (.ofNat 2)], zh113, []),
  [((7, [qtA 4, qtN 5 0 60, qtN 6 0 60], [], [], zh114, []), 0, 0)])
noncomputable def c34_6_e : List Ct := [c35_6, c40_0, c44_0]
noncomputable def c34_6_p0 : PE := (7, [0, 1, 2], (8, [qtN 0 0 60, qtA 1, qtN 2 0 60, qtN 3 0 60, qtN 4 0 60, qtA 5, qtN 6 0 60, qtN 7 0 60], [], [qvR 0, qvK (.ofNat 2), qvS 4], zh116, []), symsL 4 0, some ((.ofNat 121), [(4, (.negSucc 0))]), 0, 0)
noncomputable def c34_6_pts : List PE := [c34_6_p0]
set_option maxRecDepth 100000 in
theorem c34_6_k : enCtF c34_6 c34_6_e (pkP (c34_6_pts ++ []) [0]) (none) (noF, noM, 128, 0, 4) 3000 = true := by decide +kernel
set_option maxRecDepth 100000 in
theorem c34_6_k0 : ptCtF c34_6 c34_6_e (pkP (c34_6_pts ++ []) [0]) (noF, noM, 128, 0, 4) 3000 c34_6_p0 = true := by decide +kernel
set_option maxRecDepth 100000 in
theorem c34_6_v : ValidC PPk c34_6 := ct_ok fpk ⟨noF_ok, noM_ok⟩ (d := 56) (ext := []) (pts := c34_6_pts) (env := c34_6_e) rfl (List.forall_mem_cons.mpr ⟨⟨c35_6_v, Nat.le_of_ble_eq_true rfl⟩, List.forall_mem_cons.mpr ⟨⟨c40_0_v, Nat.le_of_ble_eq_true rfl⟩, List.forall_mem_cons.mpr ⟨⟨c44_0_v, Nat.le_of_ble_eq_true rfl⟩, fun _ h => (by cases h)⟩⟩⟩) ext_nil (fun q h => (by cases h)) (enF c34_6_k) (List.forall_mem_cons.mpr ⟨⟨_, ptF c34_6_k0⟩, fun _ h => (by cases h)⟩)

noncomputable def c45_7 : Ct := (45, 58, (4, [qtN 0 0 60, qtA 1, qtN 2 0 60, qtN 3 0 60], [((.ofNat 1), [(0, (.negSucc 0)), (2, (.ofNat 1))])], [qvR 0, qvK (.ofNat 1)], zh113, []),
  [((7, [qtA 4, qtN 5 0 60, qtN 6 0 60], [], [], zh114, []), 0, 0)])
noncomputable def c45_7_e : List Ct := [c34_6, c40_0, c43_0]
noncomputable def c45_7_pts : List PE := []
set_option maxRecDepth 100000 in
theorem c45_7_k : enCtF c45_7 c45_7_e (pkP (c45_7_pts ++ []) []) (none) noH 3000 = true := by decide +kernel
set_option maxRecDepth 100000 in
theorem c45_7_v : ValidC PPk c45_7 := ct_ok fpk noH_ok (d := 57) (ext := []) (pts := c45_7_pts) (env := c45_7_e) rfl (List.forall_mem_cons.mpr ⟨⟨c34_6_v, Nat.le_of_ble_eq_true rfl⟩, List.forall_mem_cons.mpr ⟨⟨c40_0_v, Nat.le_of_ble_eq_true rfl⟩, List.forall_mem_cons.mpr ⟨⟨c43_0_v, Nat.le_of_ble_eq_true rfl⟩, fun _ h => (by cases h)⟩⟩⟩) ext_nil (fun q h => (by cases h)) (enF c45_7_k) (fun _ h => (by cases h))

noncomputable def c41_14 : Ct := (41, 59, (5, [qtN 0 0 60, qtA 1, qtN 2 0 60, qtN 3 0 60, qtA 4], [((.ofNat 1), [(0, (.negSucc 0)), (2, (.ofNat 1))])], [qvR 0, qvS 4, qvK (.ofNat 1)], zh113, []),
  [((8, [qtA 5, qtN 6 0 60, qtN 7 0 60], [], [], zh116, []), 0, 0)])
noncomputable def c41_14_e : List Ct := [c42_0, c43_0, c44_0, c45_7]
noncomputable def c41_14_pts : List PE := []
set_option maxRecDepth 100000 in
theorem c41_14_k : enCtF c41_14 c41_14_e (pkP (c41_14_pts ++ []) []) (none) noH 3000 = true := by decide +kernel
set_option maxRecDepth 100000 in
theorem c41_14_v : ValidC PPk c41_14 := ct_ok fpk noH_ok (d := 58) (ext := []) (pts := c41_14_pts) (env := c41_14_e) rfl (List.forall_mem_cons.mpr ⟨⟨c42_0_v, Nat.le_of_ble_eq_true rfl⟩, List.forall_mem_cons.mpr ⟨⟨c43_0_v, Nat.le_of_ble_eq_true rfl⟩, List.forall_mem_cons.mpr ⟨⟨c44_0_v, Nat.le_of_ble_eq_true rfl⟩, List.forall_mem_cons.mpr ⟨⟨c45_7_v, Nat.le_of_ble_eq_true rfl⟩, fun _ h => (by cases h)⟩⟩⟩⟩) ext_nil (fun q h => (by cases h)) (enF c41_14_k) (fun _ h => (by cases h))

noncomputable def c41_15 : Ct := (41, 2, (6, [qtN 0 0 60, qtA 1, qtN 2 0 60, qtN 3 0 60], [], [qvR 0, qvK (.negSucc 0), qvK (.ofNat 1)], zh111, []),
  [((7, [qtA 6], [], [], zh112, []), 0, 0)])
noncomputable def c41_15_e : List Ct := [c43_0]
noncomputable def c41_15_pts : List PE := []
set_option maxRecDepth 100000 in
theorem c41_15_k : enCtF c41_15 c41_15_e (pkP (c41_15_pts ++ []) []) (none) noH 3000 = true := by decide +kernel
set_option maxRecDepth 100000 in
theorem c41_15_v : ValidC PPk c41_15 := ct_ok fpk noH_ok (d := 1) (ext := []) (pts := c41_15_pts) (env := c41_15_e) rfl (List.forall_mem_cons.mpr ⟨⟨c43_0_v, Nat.le_of_ble_eq_true rfl⟩, fun _ h => (by cases h)⟩) ext_nil (fun q h => (by cases h)) (enF c41_15_k) (fun _ h => (by cases h))

noncomputable def c39_7 : Ct := (39, 60, (4, [qtN 0 0 60, qtA 1, qtN 2 0 60, qtN 3 0 60], [], [qvR 0, qvK (.ofNat 1)], zh113, []),
  [((7, [qtA 4, qtN 5 0 60, qtN 6 0 60], [], [], zh114, []), 0, 0)])
noncomputable def c39_7_e : List Ct := [c40_0, c41_14, c41_15, c44_0]
noncomputable def c39_7_p0 : PE := (13, [0, 1, 2, 3, 4], (7, [qtN 0 1 60, (1, (.negSucc 0), (.negSucc 0)), qtN 2 0 60, qtN 3 0 60, qtN 4 0 127, qtN 5 0 60, qtN 6 0 59], [((.ofNat 1), [(0, (.negSucc 0)), (6, (.ofNat 1))])], [qvR 0, qvK (.ofNat 1), qvS 2, qvS 4, qvS 5], zh117, []), symsL 4 0, some ((.ofNat 182), [(5, (.negSucc 0))]), 0, 0)
noncomputable def c39_7_p1 : PE := (13, [0, 1, 2, 3, 4], (6, [qtN 0 0 60, qtA 1, qtN 2 0 60, qtN 3 0 60, qtN 4 0 60, qtN 5 0 60], [], [qvR 0, qvK (.ofNat 1), qvS 2, qvK (.negSucc 0), qvS 4], zh115, []), symsL 4 0, some ((.ofNat 182), [(4, (.negSucc 0))]), 0, 0)
noncomputable def c39_7_p2 : PE := (71, [0, 1, 2, 3, 4, 5], (10, [qtN 0 0 60, qtA 1, qtN 2 0 60, qtN 3 0 60, (4, (.negSucc 0), (.ofNat 127)), qtN 5 0 60, (6, (.negSucc 0), (.ofNat 59)), qtA 7, qtN 8 0 60, qtN 9 0 60], [], [qvR 0, qvK (.ofNat 1), qvS 2, qvS 4, qvS 5, qvS 6], zh118, []), symsL 4 0, some ((.ofNat 62), [(6, (.ofNat 1))]), 0, 0)
noncomputable def c39_7_pts : List PE := [c39_7_p0, c39_7_p1, c39_7_p2]
set_option maxRecDepth 100000 in
theorem c39_7_k : enCtF c39_7 c39_7_e (pkP (c39_7_pts ++ []) [1, 0]) (none) (noF, noM, 2361183241434822615040, 0, 4) 3000 = true := by decide +kernel
set_option maxRecDepth 100000 in
theorem c39_7_k0 : ptCtF c39_7 c39_7_e (pkP (c39_7_pts ++ []) [2, 1, 0]) (noF, noM, 2361183241434822615040, 0, 4) 3000 c39_7_p0 = true := by decide +kernel
set_option maxRecDepth 100000 in
theorem c39_7_k1 : ptCtF c39_7 c39_7_e (pkP (c39_7_pts ++ []) [2]) (noF, noM, 2361183241434822615040, 0, 4) 3000 c39_7_p1 = true := by decide +kernel
set_option maxRecDepth 100000 in
theorem c39_7_k2 : ptCtF c39_7 c39_7_e (pkP (c39_7_pts ++ []) [2]) (noF, noM, 2361183241434822615040, 0, 4) 3000 c39_7_p2 = true := by decide +kernel
set_option maxRecDepth 100000 in
theorem c39_7_v : ValidC PPk c39_7 := ct_ok fpk ⟨noF_ok, noM_ok⟩ (d := 59) (ext := []) (pts := c39_7_pts) (env := c39_7_e) rfl (List.forall_mem_cons.mpr ⟨⟨c40_0_v, Nat.le_of_ble_eq_true rfl⟩, List.forall_mem_cons.mpr ⟨⟨c41_14_v, Nat.le_of_ble_eq_true rfl⟩, List.forall_mem_cons.mpr ⟨⟨c41_15_v, Nat.le_of_ble_eq_true rfl⟩, List.forall_mem_cons.mpr ⟨⟨c44_0_v, Nat.le_of_ble_eq_true rfl⟩, fun _ h => (by cases h)⟩⟩⟩⟩) ext_nil (fun q h => (by cases h)) (enF c39_7_k) (List.forall_mem_cons.mpr ⟨⟨_, ptF c39_7_k0⟩, List.forall_mem_cons.mpr ⟨⟨_, ptF c39_7_k1⟩, List.forall_mem_cons.mpr ⟨⟨_, ptF c39_7_k2⟩, fun _ h => (by cases h)⟩⟩⟩)

noncomputable def c38_7 : Ct := (38, 61, (4, [qtN 0 0 60, qtA 1, qtN 2 0 60, qtN 3 0 60], [], [qvR 0, qvK (.ofNat 1)], zh113, []),
  [((7, [qtA 4, qtN 5 0 60, qtN 6 0 60], [], [], zh114, []), 0, 0)])
noncomputable def c38_7_e : List Ct := [c39_7, c40_0, c44_0]
noncomputable def c38_7_p0 : PE := (7, [0, 1, 2], (7, (zt19 []), [], [qvR 0, qvK (.ofNat 1), qvK (.ofNat 0)], zh114, []), symsL 4 0, some ((.ofNat 121), []), 0, 0)
noncomputable def c38_7_p1 : PE := (7, [0, 1, 2, 3], (9, [qtN 0 1 60, qtA 1, qtN 2 0 60, qtN 3 0 60, qtN 4 1 60, qtN 5 42 47, qtA 6, qtN 7 0 60, qtN 8 1 60], [], [qvR 0, qvK (.ofNat 1), qvS 4, qvS 5], zh119, []), symsL 4 0, some ((.ofNat 121), [(4, (.negSucc 0))]), 0, 0)
noncomputable def c38_7_pts : List PE := [c38_7_p0, c38_7_p1]
set_option maxRecDepth 100000 in
theorem c38_7_k : enCtF c38_7 c38_7_e (pkP (c38_7_pts ++ []) [0]) (none) (noF, noM, 128, 0, 4) 3000 = true := by decide +kernel
set_option maxRecDepth 100000 in
theorem c38_7_k0 : ptCtF c38_7 c38_7_e (pkP (c38_7_pts ++ []) [1]) (noF, noM, 128, 0, 4) 3000 c38_7_p0 = true := by decide +kernel
set_option maxRecDepth 100000 in
theorem c38_7_k1 : ptCtF c38_7 c38_7_e (pkP (c38_7_pts ++ []) [1]) (noF, noM, 128, 0, 4) 3000 c38_7_p1 = true := by decide +kernel
set_option maxRecDepth 100000 in
theorem c38_7_v : ValidC PPk c38_7 := ct_ok fpk ⟨noF_ok, noM_ok⟩ (d := 60) (ext := []) (pts := c38_7_pts) (env := c38_7_e) rfl (List.forall_mem_cons.mpr ⟨⟨c39_7_v, Nat.le_of_ble_eq_true rfl⟩, List.forall_mem_cons.mpr ⟨⟨c40_0_v, Nat.le_of_ble_eq_true rfl⟩, List.forall_mem_cons.mpr ⟨⟨c44_0_v, Nat.le_of_ble_eq_true rfl⟩, fun _ h => (by cases h)⟩⟩⟩) ext_nil (fun q h => (by cases h)) (enF c38_7_k) (List.forall_mem_cons.mpr ⟨⟨_, ptF c38_7_k0⟩, List.forall_mem_cons.mpr ⟨⟨_, ptF c38_7_k1⟩, fun _ h => (by cases h)⟩⟩)

noncomputable def c37_7 : Ct := (37, 62, (4, [qtN 0 0 60, qtA 1, qtN 2 0 60, qtN 3 0 60], [], [qvR 0, qvK (.ofNat 1)], zh113, []),
  [((7, [qtA 4, qtN 5 0 60, qtN 6 0 60], [], [], zh114, []), 0, 0)])
noncomputable def c37_7_e : List Ct := [c38_7, c40_0, c44_0]
noncomputable def c37_7_p0 : PE := (7, [0, 1, 2], (7, (zt19 []), [], [qvR 0, qvK (.ofNat 1), qvK (.ofNat 0)], zh114, []), symsL 4 0, some ((.ofNat 121), []), 0, 0)
noncomputable def c37_7_p1 : PE := (7, [0, 1, 2, 3], (9, [qtN 0 1 60, qtA 1, qtN 2 0 60, qtN 3 0 60, qtN 4 1 60, qtN 5 43 45, qtA 6, qtN 7 0 60, qtN 8 1 60], [], [qvR 0, qvK (.ofNat 1), qvS 4, qvS 5], zh119, []), symsL 4 0, some ((.ofNat 121), [(4, (.negSucc 0))]), 0, 0)
noncomputable def c37_7_pts : List PE := [c37_7_p0, c37_7_p1]
set_option maxRecDepth 100000 in
theorem c37_7_k : enCtF c37_7 c37_7_e (pkP (c37_7_pts ++ []) [0]) (none) (noF, noM, 128, 0, 4) 3000 = true := by decide +kernel
set_option maxRecDepth 100000 in
theorem c37_7_k0 : ptCtF c37_7 c37_7_e (pkP (c37_7_pts ++ []) [1]) (noF, noM, 128, 0, 4) 3000 c37_7_p0 = true := by decide +kernel
set_option maxRecDepth 100000 in
theorem c37_7_k1 : ptCtF c37_7 c37_7_e (pkP (c37_7_pts ++ []) [1]) (noF, noM, 128, 0, 4) 3000 c37_7_p1 = true := by decide +kernel
set_option maxRecDepth 100000 in
theorem c37_7_v : ValidC PPk c37_7 := ct_ok fpk ⟨noF_ok, noM_ok⟩ (d := 61) (ext := []) (pts := c37_7_pts) (env := c37_7_e) rfl (List.forall_mem_cons.mpr ⟨⟨c38_7_v, Nat.le_of_ble_eq_true rfl⟩, List.forall_mem_cons.mpr ⟨⟨c40_0_v, Nat.le_of_ble_eq_true rfl⟩, List.forall_mem_cons.mpr ⟨⟨c44_0_v, Nat.le_of_ble_eq_true rfl⟩, fun _ h => (by cases h)⟩⟩⟩) ext_nil (fun q h => (by cases h)) (enF c37_7_k) (List.forall_mem_cons.mpr ⟨⟨_, ptF c37_7_k0⟩, List.forall_mem_cons.mpr ⟨⟨_, ptF c37_7_k1⟩, fun _ h => (by cases h)⟩⟩)

noncomputable def c36_7 : Ct := (36, 63, (4, [qtN 0 0 60, qtA 1, qtN 2 0 60, qtN 3 0 60], [], [qvR 0, qvK (.ofNat 1)], zh113, []),
  [((7, [qtA 4, qtN 5 0 60, qtN 6 0 60], [], [], zh114, []), 0, 0)])
noncomputable def c36_7_e : List Ct := [c37_7, c40_0, c44_0]
noncomputable def c36_7_pts : List PE := []
set_option maxRecDepth 100000 in
theorem c36_7_k : enCtF c36_7 c36_7_e (pkP (c36_7_pts ++ []) []) (none) noH 3000 = true := by decide +kernel
set_option maxRecDepth 100000 in
theorem c36_7_v : ValidC PPk c36_7 := ct_ok fpk noH_ok (d := 62) (ext := []) (pts := c36_7_pts) (env := c36_7_e) rfl (List.forall_mem_cons.mpr ⟨⟨c37_7_v, Nat.le_of_ble_eq_true rfl⟩, List.forall_mem_cons.mpr ⟨⟨c40_0_v, Nat.le_of_ble_eq_true rfl⟩, List.forall_mem_cons.mpr ⟨⟨c44_0_v, Nat.le_of_ble_eq_true rfl⟩, fun _ h => (by cases h)⟩⟩⟩) ext_nil (fun q h => (by cases h)) (enF c36_7_k) (fun _ h => (by cases h))

noncomputable def c35_7 : Ct := (35, 64, (4, [qtN 0 0 60, qtA 1, qtN 2 0 60, qtN 3 0 60], [], [qvR 0, qvK (.ofNat 1)], zh113, []),
  [((7, [qtA 4, qtN 5 0 60, qtN 6 0 60], [], [], zh114, []), 0, 0)])
noncomputable def c35_7_e : List Ct := [c36_7, c40_0, c44_0]
noncomputable def c35_7_p0 : PE := (7, [0, 1, 2], (8, [qtN 0 0 60, qtA 1, qtN 2 0 60, qtN 3 0 60, qtN 4 0 60, qtA 5, qtN 6 0 60, qtN 7 0 60], [], [qvR 0, qvK (.ofNat 1), qvS 4], zh116, []), symsL 4 0, some ((.ofNat 121), [(4, (.negSucc 0))]), 0, 0)
noncomputable def c35_7_pts : List PE := [c35_7_p0]
set_option maxRecDepth 100000 in
theorem c35_7_k : enCtF c35_7 c35_7_e (pkP (c35_7_pts ++ []) [0]) (none) (noF, noM, 128, 0, 4) 3000 = true := by decide +kernel
set_option maxRecDepth 100000 in
theorem c35_7_k0 : ptCtF c35_7 c35_7_e (pkP (c35_7_pts ++ []) [0]) (noF, noM, 128, 0, 4) 3000 c35_7_p0 = true := by decide +kernel
set_option maxRecDepth 100000 in
theorem c35_7_v : ValidC PPk c35_7 := ct_ok fpk ⟨noF_ok, noM_ok⟩ (d := 63) (ext := []) (pts := c35_7_pts) (env := c35_7_e) rfl (List.forall_mem_cons.mpr ⟨⟨c36_7_v, Nat.le_of_ble_eq_true rfl⟩, List.forall_mem_cons.mpr ⟨⟨c40_0_v, Nat.le_of_ble_eq_true rfl⟩, List.forall_mem_cons.mpr ⟨⟨c44_0_v, Nat.le_of_ble_eq_true rfl⟩, fun _ h => (by cases h)⟩⟩⟩) ext_nil (fun q h => (by cases h)) (enF c35_7_k) (List.forall_mem_cons.mpr ⟨⟨_, ptF c35_7_k0⟩, fun _ h => (by cases h)⟩)

noncomputable def c34_7 : Ct := (34, 65, (4, [qtN 0 0 60, qtA 1, qtN 2 0 60, qtN 3 0 60], [], [qvR 0, qvK (.ofNat 1)], zh113, []),
  [((7, [qtA 4, qtN 5 0 60, qtN 6 0 60], [], [], zh114, []), 0, 0)])
noncomputable def c34_7_e : List Ct := [c35_7, c40_0, c44_0]
noncomputable def c34_7_p0 : PE := (7, [0, 1, 2], (8, [qtN 0 0 60, qtA 1, qtN 2 0 60, qtN 3 0 60, qtN 4 0 60, qtA 5, qtN 6 0 60, qtN 7 0 60], [], [qvR 0, qvK (.ofNat 1), qvS 4], zh116, []), symsL 4 0, some ((.ofNat 121), [(4, (.negSucc 0))]), 0, 0)
noncomputable def c34_7_pts : List PE := [c34_7_p0]
set_option maxRecDepth 100000 in
theorem c34_7_k : enCtF c34_7 c34_7_e (pkP (c34_7_pts ++ []) [0]) (none) (noF, noM, 128, 0, 4) 3000 = true := by decide +kernel
set_option maxRecDepth 100000 in
theorem c34_7_k0 : ptCtF c34_7 c34_7_e (pkP (c34_7_pts ++ []) [0]) (noF, noM, 128, 0, 4) 3000 c34_7_p0 = true := by decide +kernel
set_option maxRecDepth 100000 in
theorem c34_7_v : ValidC PPk c34_7 := ct_ok fpk ⟨noF_ok, noM_ok⟩ (d := 64) (ext := []) (pts := c34_7_pts) (env := c34_7_e) rfl (List.forall_mem_cons.mpr ⟨⟨c35_7_v, Nat.le_of_ble_eq_true rfl⟩, List.forall_mem_cons.mpr ⟨⟨c40_0_v, Nat.le_of_ble_eq_true rfl⟩, List.forall_mem_cons.mpr ⟨⟨c44_0_v, Nat.le_of_ble_eq_true rfl⟩, fun _ h => (by cases h)⟩⟩⟩) ext_nil (fun q h => (by cases h)) (enF c34_7_k) (List.forall_mem_cons.mpr ⟨⟨_, ptF c34_7_k0⟩, fun _ h => (by cases h)⟩)

noncomputable def c45_8 : Ct := (45, 66, (4, [qtN 0 0 60, qtA 1, qtN 2 0 60, qtN 3 0 60], [((.ofNat 1), [(0, (.negSucc 0)), (2, (.ofNat 1))])], [qvR 0, qvK (.ofNat 0)], zh113, []),
  [((7, [qtA 4, qtN 5 0 60, qtN 6 0 60], [], [], zh114, []), 0, 0)])
noncomputable def c45_8_e : List Ct := [c34_7, c40_0, c43_0]
noncomputable def c45_8_pts : List PE := []
set_option maxRecDepth 100000 in
theorem c45_8_k : enCtF c45_8 c45_8_e (pkP (c45_8_pts ++ []) []) (none) noH 3000 = true := by decide +kernel
set_option maxRecDepth 100000 in
theorem c45_8_v : ValidC PPk c45_8 := ct_ok fpk noH_ok (d := 65) (ext := []) (pts := c45_8_pts) (env := c45_8_e) rfl (List.forall_mem_cons.mpr ⟨⟨c34_7_v, Nat.le_of_ble_eq_true rfl⟩, List.forall_mem_cons.mpr ⟨⟨c40_0_v, Nat.le_of_ble_eq_true rfl⟩, List.forall_mem_cons.mpr ⟨⟨c43_0_v, Nat.le_of_ble_eq_true rfl⟩, fun _ h => (by cases h)⟩⟩⟩) ext_nil (fun q h => (by cases h)) (enF c45_8_k) (fun _ h => (by cases h))

noncomputable def c41_16 : Ct := (41, 67, (5, [qtN 0 0 60, qtA 1, qtN 2 0 60, qtN 3 0 60, qtA 4], [((.ofNat 1), [(0, (.negSucc 0)), (2, (.ofNat 1))])], [qvR 0, qvS 4, qvK (.ofNat 0)], zh113, []),
  [((8, [qtA 5, qtN 6 0 60, qtN 7 0 60], [], [], zh116, []), 0, 0)])
noncomputable def c41_16_e : List Ct := [c42_0, c43_0, c44_0, c45_8]
noncomputable def c41_16_pts : List PE := []
set_option maxRecDepth 100000 in
theorem c41_16_k : enCtF c41_16 c41_16_e (pkP (c41_16_pts ++ []) []) (none) noH 3000 = true := by decide +kernel
set_option maxRecDepth 100000 in
theorem c41_16_v : ValidC PPk c41_16 := ct_ok fpk noH_ok (d := 66) (ext := []) (pts := c41_16_pts) (env := c41_16_e) rfl (List.forall_mem_cons.mpr ⟨⟨c42_0_v, Nat.le_of_ble_eq_true rfl⟩, List.forall_mem_cons.mpr ⟨⟨c43_0_v, Nat.le_of_ble_eq_true rfl⟩, List.forall_mem_cons.mpr ⟨⟨c44_0_v, Nat.le_of_ble_eq_true rfl⟩, List.forall_mem_cons.mpr ⟨⟨c45_8_v, Nat.le_of_ble_eq_true rfl⟩, fun _ h => (by cases h)⟩⟩⟩⟩) ext_nil (fun q h => (by cases h)) (enF c41_16_k) (fun _ h => (by cases h))

noncomputable def c41_17 : Ct := (41, 2, (6, [qtN 0 0 60, qtA 1, qtN 2 0 60, qtN 3 0 60], [], [qvR 0, qvK (.negSucc 0), qvK (.ofNat 0)], zh111, []),
  [((7, [qtA 6], [], [], zh112, []), 0, 0)])
noncomputable def c41_17_e : List Ct := [c43_0]
noncomputable def c41_17_pts : List PE := []
set_option maxRecDepth 100000 in
theorem c41_17_k : enCtF c41_17 c41_17_e (pkP (c41_17_pts ++ []) []) (none) noH 3000 = true := by decide +kernel
set_option maxRecDepth 100000 in
theorem c41_17_v : ValidC PPk c41_17 := ct_ok fpk noH_ok (d := 1) (ext := []) (pts := c41_17_pts) (env := c41_17_e) rfl (List.forall_mem_cons.mpr ⟨⟨c43_0_v, Nat.le_of_ble_eq_true rfl⟩, fun _ h => (by cases h)⟩) ext_nil (fun q h => (by cases h)) (enF c41_17_k) (fun _ h => (by cases h))

noncomputable def c39_8 : Ct := (39, 68, (4, [qtN 0 0 60, qtA 1, qtN 2 0 60, qtN 3 0 60], [], [qvR 0, qvK (.ofNat 0)], zh113, []),
  [((7, [qtA 4, qtN 5 0 60, qtN 6 0 60], [], [], zh114, []), 0, 0)])
noncomputable def c39_8_e : List Ct := [c40_0, c41_16, c41_17, c44_0]
noncomputable def c39_8_p0 : PE := (13, [0, 1, 2, 3, 4], (7, [qtN 0 1 60, (1, (.negSucc 0), (.negSucc 0)), qtN 2 0 60, qtN 3 0 60, qtN 4 0 127, qtN 5 0 60, qtN 6 0 59], [((.ofNat 1), [(0, (.negSucc 0)), (6, (.ofNat 1))])], [qvR 0, qvK (.ofNat 0), qvS 2, qvS 4, qvS 5], zh117, []), symsL 4 0, some ((.ofNat 182), [(5, (.negSucc 0))]), 0, 0)
noncomputable def c39_8_p1 : PE := (13, [0, 1, 2, 3, 4], (6, [qtN 0 0 60, qtA 1, qtN 2 0 60, qtN 3 0 60, qtN 4 0 60, qtN 5 0 60], [], [qvR 0, qvK (.ofNat 0), qvS 2, qvK (.negSucc 0), qvS 4], zh115, []), symsL 4 0, some ((.ofNat 182), [(4, (.negSucc 0))]), 0, 0)
noncomputable def c39_8_p2 : PE := (71, [0, 1, 2, 3, 4, 5], (10, [qtN 0 0 60, qtA 1, qtN 2 0 60, qtN 3 0 60, (4, (.negSucc 0), (.ofNat 127)), qtN 5 0 60, (6, (.negSucc 0), (.ofNat 59)), qtA 7, qtN 8 0 60, qtN 9 0 60], [], [qvR 0, qvK (.ofNat 0), qvS 2, qvS 4, qvS 5, qvS 6], zh118, []), symsL 4 0, some ((.ofNat 62), [(6, (.ofNat 1))]), 0, 0)
noncomputable def c39_8_pts : List PE := [c39_8_p0, c39_8_p1, c39_8_p2]
set_option maxRecDepth 100000 in
theorem c39_8_k : enCtF c39_8 c39_8_e (pkP (c39_8_pts ++ []) [1, 0]) (none) (noF, noM, 2361183241434822615040, 0, 4) 3000 = true := by decide +kernel
set_option maxRecDepth 100000 in
theorem c39_8_k0 : ptCtF c39_8 c39_8_e (pkP (c39_8_pts ++ []) [2, 1, 0]) (noF, noM, 2361183241434822615040, 0, 4) 3000 c39_8_p0 = true := by decide +kernel
set_option maxRecDepth 100000 in
theorem c39_8_k1 : ptCtF c39_8 c39_8_e (pkP (c39_8_pts ++ []) [2]) (noF, noM, 2361183241434822615040, 0, 4) 3000 c39_8_p1 = true := by decide +kernel
set_option maxRecDepth 100000 in
theorem c39_8_k2 : ptCtF c39_8 c39_8_e (pkP (c39_8_pts ++ []) [2]) (noF, noM, 2361183241434822615040, 0, 4) 3000 c39_8_p2 = true := by decide +kernel
set_option maxRecDepth 100000 in
theorem c39_8_v : ValidC PPk c39_8 := ct_ok fpk ⟨noF_ok, noM_ok⟩ (d := 67) (ext := []) (pts := c39_8_pts) (env := c39_8_e) rfl (List.forall_mem_cons.mpr ⟨⟨c40_0_v, Nat.le_of_ble_eq_true rfl⟩, List.forall_mem_cons.mpr ⟨⟨c41_16_v, Nat.le_of_ble_eq_true rfl⟩, List.forall_mem_cons.mpr ⟨⟨c41_17_v, Nat.le_of_ble_eq_true rfl⟩, List.forall_mem_cons.mpr ⟨⟨c44_0_v, Nat.le_of_ble_eq_true rfl⟩, fun _ h => (by cases h)⟩⟩⟩⟩) ext_nil (fun q h => (by cases h)) (enF c39_8_k) (List.forall_mem_cons.mpr ⟨⟨_, ptF c39_8_k0⟩, List.forall_mem_cons.mpr ⟨⟨_, ptF c39_8_k1⟩, List.forall_mem_cons.mpr ⟨⟨_, ptF c39_8_k2⟩, fun _ h => (by cases h)⟩⟩⟩)

noncomputable def c38_8 : Ct := (38, 69, (4, [qtN 0 0 60, qtA 1, qtN 2 0 60, qtN 3 0 60], [], [qvR 0, qvK (.ofNat 0)], zh113, []),
  [((7, [qtA 4, qtN 5 0 60, qtN 6 0 60], [], [], zh114, []), 0, 0)])
noncomputable def c38_8_e : List Ct := [c39_8, c40_0, c44_0]
noncomputable def c38_8_p0 : PE := (7, [0, 1, 2], (7, (zt19 []), [], [qvR 0, qvK (.ofNat 0), qvK (.ofNat 0)], zh114, []), symsL 4 0, some ((.ofNat 121), []), 0, 0)
noncomputable def c38_8_p1 : PE := (7, [0, 1, 2, 3], (9, [qtN 0 1 60, qtA 1, qtN 2 0 60, qtN 3 0 60, qtN 4 1 60, qtN 5 42 47, qtA 6, qtN 7 0 60, qtN 8 1 60], [], [qvR 0, qvK (.ofNat 0), qvS 4, qvS 5], zh119, []), symsL 4 0, some ((.ofNat 121), [(4, (.negSucc 0))]), 0, 0)
noncomputable def c38_8_pts : List PE := [c38_8_p0, c38_8_p1]
set_option maxRecDepth 100000 in
theorem c38_8_k : enCtF c38_8 c38_8_e (pkP (c38_8_pts ++ []) [0]) (none) (noF, noM, 128, 0, 4) 3000 = true := by decide +kernel
set_option maxRecDepth 100000 in
theorem c38_8_k0 : ptCtF c38_8 c38_8_e (pkP (c38_8_pts ++ []) [1]) (noF, noM, 128, 0, 4) 3000 c38_8_p0 = true := by decide +kernel
set_option maxRecDepth 100000 in
theorem c38_8_k1 : ptCtF c38_8 c38_8_e (pkP (c38_8_pts ++ []) [1]) (noF, noM, 128, 0, 4) 3000 c38_8_p1 = true := by decide +kernel
set_option maxRecDepth 100000 in
theorem c38_8_v : ValidC PPk c38_8 := ct_ok fpk ⟨noF_ok, noM_ok⟩ (d := 68) (ext := []) (pts := c38_8_pts) (env := c38_8_e) rfl (List.forall_mem_cons.mpr ⟨⟨c39_8_v, Nat.le_of_ble_eq_true rfl⟩, List.forall_mem_cons.mpr ⟨⟨c40_0_v, Nat.le_of_ble_eq_true rfl⟩, List.forall_mem_cons.mpr ⟨⟨c44_0_v, Nat.le_of_ble_eq_true rfl⟩, fun _ h => (by cases h)⟩⟩⟩) ext_nil (fun q h => (by cases h)) (enF c38_8_k) (List.forall_mem_cons.mpr ⟨⟨_, ptF c38_8_k0⟩, List.forall_mem_cons.mpr ⟨⟨_, ptF c38_8_k1⟩, fun _ h => (by cases h)⟩⟩)
