/-! LM, by program: certificates C 17 -/
-- OneSided$Scene.tryDoor [(68, 68), (32, 32), (0, 5), (0, 13)]
def Ckl2471 : AL := [some Cka166,some Cka121,some Cka67,some Cka62,none,none]
def Ckl2472 : AL := [some Cka166,some Cka121,some Cka67,some Cka62,some Cka125,none]
def Ckl2473 : AL := [some Cka166,some Cka121,some Cka67,some Cka62,some Cka125,some Cka165]
def Ckl2474 : AL := [some Cka166,some Cka121,some Cka67,some Cka62,some Cka125,some Cka77]
def CNC283_0 : List ND := [(0,(Ckl2471,[],[]),84,Ckc9,[1],0),
  (1,(Ckl2471,[Cke314],[]),83,Ckc9,[2],0),
  (4,(Ckl2471,[Cke325],[]),82,Ckc9,[3],0),
  (6,(Ckl2471,[Cke144,Cke325],[]),81,Ckc9,[11,4],0),
  (9,(Ckl2471,[],Ckf332),80,Ckc9,[5],0),
  (10,(Ckl2471,[Cke314],Ckf332),79,Ckc9,[6],0),
  (13,(Ckl2471,[Cke327],Ckf332),78,Ckc9,[7],0),
  (14,(Ckl2471,[Cke278,Cke327],Ckf332),77,Ckc9,[8],0),
  (15,(Ckl2471,[Cke184],Ckf332),76,Ckc9,[9],0),
  (16,(Ckl2471,[Cke6,Cke184],Ckf332),75,Ckc9,[10],0),
  (17,(Ckl2471,[Cke242],Ckf332),74,Ckc9,[13,11],0),
  (20,(Ckl2471,[],[]),1,Ckc9,[12],0),
  (21,(Ckl2471,[Cke51],[]),0,Ckc9,[],0),
  (22,(Ckl2471,[],Ckf332),73,Ckc9,[14],0),
  (23,(Ckl2471,[Cke200],Ckf332),72,Ckc9,[15],0),
  (26,(Ckl2471,[Cke198],Ckf332),71,Ckc9,[16],0),
  (27,(Ckl2471,[Cke278,Cke198],Ckf332),70,Ckc9,[17],0),
  (28,(Ckl2471,[Cke199],Ckf332),69,Ckc9,[18],0),
  (30,(Ckl2472,[],Ckf332),68,Ckc9,[19],0),
  (31,(Ckl2472,[Cke200],Ckf332),67,Ckc9,[20],0),
  (32,(Ckl2472,[Cke78,Cke200],Ckf332),66,Ckc9,[21],0),
  (34,(Ckl2472,[Cke322,Cke78,Cke200],Ckf332),65,Ckc9,[22],0),
  (37,(Ckl2472,[Cke141,Cke78,Cke200],Ckf332),64,Ckc9,[23],0),
  (38,(Ckl2472,[Cke314,Cke141,Cke78,Cke200],Ckf332),63,Ckc9,[24],0),
  (41,(Ckl2472,[Cke317,Cke141,Cke78,Cke200],Ckf332),62,Ckc9,[25],0),
  (42,(Ckl2472,[Cke278,Cke317,Cke141,Cke78,Cke200],Ckf332),61,Ckc9,[26],0),
  (43,(Ckl2472,[Cke97,Cke141,Cke78,Cke200],Ckf332),60,Ckc9,[27],0),
  (44,(Ckl2472,[Cke314,Cke97,Cke141,Cke78,Cke200],Ckf332),59,Ckc9,[28],0),
  (47,(Ckl2472,[Cke864,Cke97,Cke141,Cke78,Cke200],Ckf332),58,Ckc9,[29],0),
  (48,(Ckl2472,[Cke314,Cke864,Cke97,Cke141,Cke78,Cke200],Ckf332),57,Ckc9,[30],0),
  (51,(Ckl2472,[Cke326,Cke864,Cke97,Cke141,Cke78,Cke200],Ckf332),56,Ckc9,[31],147),
  (54,(Ckl2472,[Cke313],Ckf332),55,Ckc9,[32],0),
  (56,(Ckl2473,[],Ckf332),54,Ckc9,[33],0),
  (58,(Ckl2473,[Cke321],Ckf332),53,Ckc9,[34],0),
  (59,(Ckl2473,[Cke51,Cke321],Ckf332),52,Ckc9,[45,35],0),
  (62,(Ckl2474,[],Ckf332),51,Ckc9,[36],0),
  (63,(Ckl2474,[Cke314],Ckf332),50,Ckc9,[37],0),
  (66,(Ckl2474,[Cke318],Ckf332),49,Ckc9,[38],0),
  (67,(Ckl2474,[Cke78,Cke318],Ckf332),48,Ckc9,[39],0),
  (68,(Ckl2474,[Cke184],Ckf332),47,Ckc9,[40],0),
  (69,(Ckl2474,[Cke200,Cke184],Ckf332),46,Ckc9,[41],0),
  (72,(Ckl2474,[Cke195,Cke184],Ckf332),45,Ckc9,[42],0),
  (73,(Ckl2474,[Cke78,Cke195,Cke184],Ckf332),44,Ckc9,[43],0),
  (74,(Ckl2474,[Cke196,Cke184],Ckf332),43,Ckc9,[44],0),
  (77,(Ckl2474,[Cke97,Cke184],Ckf332),42,Ckc9,[47,45],0),
  (80,(Ckl2473,[],Ckf332),3,Ckc9,[46],0),
  (81,(Ckl2473,[Cke51],Ckf332),2,Ckc9,[],0),
  (82,(Ckl2474,[],Ckf332),41,Ckc9,[48],0),
  (83,(Ckl2474,[Cke314],Ckf332),40,Ckc9,[49],0),
  (86,(Ckl2474,[Cke317],Ckf332),39,Ckc9,[50],0),
  (87,(Ckl2474,[Cke278,Cke317],Ckf332),38,Ckc9,[51],0),
  (89,(Ckl2474,[Cke236,Cke278,Cke317],Ckf332),37,Ckc9,[52],0),
  (90,(Ckl2474,[],Ckf332),36,Ckc9,[53],0),
  (91,(Ckl2474,[Cke314],Ckf332),35,Ckc9,[54],0),
  (94,(Ckl2474,[Cke318],Ckf332),34,Ckc9,[55],0),
  (95,(Ckl2474,[Cke78,Cke318],Ckf332),33,Ckc9,[56],0),
  (96,(Ckl2474,[Cke78,Cke318,Cke78,Cke318],Ckf332),32,Ckc9,[57],0),
  (97,(Ckl2474,[Cke184,Cke78,Cke318],Ckf332),31,Ckc9,[58],0),
  (98,(Ckl2474,[Cke6,Cke184,Cke78,Cke318],Ckf332),30,Ckc9,[59],0),
  (99,(Ckl2474,[Cke184,Cke78,Cke318],Ckf332),29,Ckc9,[60],0),
  (100,(Ckl2474,[],Ckf332),28,Ckc9,[61],0),
  (101,(Ckl2474,[Cke314],Ckf332),27,Ckc9,[62],0),
  (102,(Ckl2474,[Cke314,Cke314],Ckf332),26,Ckc9,[63],0),
  (105,(Ckl2474,[Cke327,Cke314],Ckf332),25,Ckc9,[64],0)]
def CNC283_1 : List ND := [(106,(Ckl2474,[Cke6,Cke327,Cke314],Ckf332),24,Ckc9,[65],0),
  (107,(Ckl2474,[Cke278,Cke6,Cke327,Cke314],Ckf332),23,Ckc9,[66],0),
  (108,(Ckl2474,[Cke282,Cke327,Cke314],Ckf332),22,Ckc9,[67],0),
  (109,(Ckl2474,[Cke184,Cke314],Ckf332),21,Ckc9,[68],0),
  (112,(Ckl2474,[],Ckf332),20,Ckc9,[69],0),
  (113,(Ckl2474,[Cke314],Ckf332),19,Ckc9,[70],0),
  (114,(Ckl2474,[Cke314,Cke314],Ckf332),18,Ckc9,[71],0),
  (117,(Ckl2474,[Cke328,Cke314],Ckf332),17,Ckc9,[72],0),
  (119,(Ckl2474,[Cke236,Cke328,Cke314],Ckf332),16,Ckc9,[73],0),
  (121,(Ckl2474,[Cke322,Cke236,Cke328,Cke314],Ckf332),15,Ckc9,[74],0),
  (124,(Ckl2474,[Cke97,Cke236,Cke328,Cke314],Ckf332),14,Ckc9,[79,75],0),
  (127,(Ckl2474,[Cke328,Cke314],Ckf332),11,Ckc9,[76],0),
  (128,(Ckl2474,[Cke6,Cke328,Cke314],Ckf332),10,Ckc9,[77],0),
  (129,(Ckl2474,[Cke278,Cke6,Cke328,Cke314],Ckf332),9,Ckc9,[78],0),
  (130,(Ckl2474,[Cke282,Cke328,Cke314],Ckf332),8,Ckc9,[81],0),
  (133,(Ckl2474,[Cke328,Cke314],Ckf332),13,Ckc9,[80],0),
  (134,(Ckl2474,[Cke7,Cke328,Cke314],Ckf332),12,Ckc9,[82],0),
  (134,(Ckl2474,[Cke282,Cke328,Cke314],Ckf332),7,Ckc9,[82],0),
  (135,(Ckl2474,[Cke184,Cke314],Ckf332),6,Ckc9,[83],0),
  (138,(Ckl2474,[],Ckf332),5,Ckc9,[84],0),
  (140,(Ckl2474,[Cke236],Ckf332),4,Ckc9,[],0)]
def CNC283 : List (List ND) := [CNC283_0, CNC283_1]
theorem CKC283 : chkS prot SMsC SMC283 [] CNC283 = true := by decide +kernel
-- OneSided$Plans.goOn [(77, 77), (32, 32), (68, 68), (0, 5)]
def Ckl2475 : AL := [some Cka182,some Cka121,some Cka166,some Cka67]
def CNC284_0 : List ND := [(0,(Ckl2475,[],[]),25,Ckc7,[1],0),
  (1,(Ckl2475,[Cke863],[]),24,Ckc7,[2],0),
  (4,(Ckl2475,[Cke327],[]),23,Ckc7,[3],0),
  (5,(Ckl2475,[Cke84,Cke327],[]),22,Ckc7,[4],0),
  (6,(Ckl2475,[Cke184],[]),21,Ckc7,[5],0),
  (7,(Ckl2475,[Cke6,Cke184],[]),20,Ckc7,[6],0),
  (8,(Ckl2475,[Cke242],[]),19,Ckc7,[8,7],0),
  (11,(Ckl2475,[],[]),18,Ckc7,[],0),
  (12,(Ckl2475,[],[]),17,Ckc7,[9],0),
  (13,(Ckl2475,[Cke381],[]),16,Ckc7,[10],0),
  (14,(Ckl2475,[Cke200,Cke381],[]),15,Ckc7,[11],0),
  (15,(Ckl2475,[Cke863,Cke200,Cke381],[]),14,Ckc7,[12],0),
  (16,(Ckl2475,[Cke84,Cke863,Cke200,Cke381],[]),13,Ckc7,[13],282),
  (19,(Ckl2475,[],[]),12,Ckc7,[14],0),
  (20,(Ckl2475,[Cke381],[]),11,Ckc7,[15],0),
  (23,(Ckl2475,[Cke511],[]),10,Ckc7,[25,16],0),
  (26,(Ckl2475,[],Ckf137),9,Ckc7,[17],0),
  (27,(Ckl2475,[Cke863],Ckf137),8,Ckc7,[18],0),
  (28,(Ckl2475,[Cke200,Cke863],Ckf137),7,Ckc7,[19],0),
  (29,(Ckl2475,[Cke84,Cke200,Cke863],Ckf137),6,Ckc7,[20],0),
  (30,(Ckl2475,[Cke381,Cke84,Cke200,Cke863],Ckf137),5,Ckc7,[21],0),
  (33,(Ckl2475,[Cke470,Cke84,Cke200,Cke863],Ckf137),4,Ckc7,[22],0),
  (34,(Ckl2475,[Cke7,Cke470,Cke84,Cke200,Cke863],Ckf137),3,Ckc7,[23],0),
  (35,(Ckl2475,[Cke865,Cke84,Cke200,Cke863],Ckf137),2,Ckc7,[24],283),
  (38,(Ckl2475,[Cke313],Ckf137),1,Ckc7,[25],0),
  (39,(Ckl2475,[],[]),0,Ckc7,[],0)]
def CNC284 : List (List ND) := [CNC284_0]
theorem CKC284 : chkS prot SMsC SMC284 [] CNC284 = true := by decide +kernel
-- OneSided$Scene.homeAndDone [(68, 68), (32, 32)]
def Ckl2476 : AL := [some Cka166,some Cka121,none,none]
def Ckl2477 : AL := [some Cka166,some Cka121,some Cka7,none]
def Ckl2478 : AL := [some Cka166,some Cka121,some Cka147,some Cka66]
def Ckl2479 : AL := [some Cka166,some Cka121,some Cka7,some Cka7]
def Ckl2480 : AL := [some Cka166,some Cka121,some Cka147,some Cka67]
def Ckf336 : FA := [(32,4,Cka68),(69,0,Cka77)]
def Ckl2481 : AL := [some Cka166,some Cka121,some Cka147,some Cka68]
def CNC285_0 : List ND := [(0,(Ckl2476,[],[]),183,Ckc7,[1],0),
  (1,(Ckl2476,[Cke7],[]),182,Ckc7,[2],0),
  (2,(Ckl2477,[],[]),181,Ckc7,[3],0),
  (3,(Ckl2477,[Cke7],[]),180,Ckc7,[4],0),
  (4,(Ckl2478,[],[]),178,Ckc69,[6],0),
  (5,(Ckl2479,[Cke74],[]),186,Ckc7,[7],0),
  (5,(Ckl2478,[Cke81],[]),177,Ckc69,[8],0),
  (6,(Ckl2479,[Cke200,Cke74],[]),185,Ckc7,[9],0),
  (6,(Ckl2478,[Cke200,Cke81],[]),176,Ckc69,[10],0),
  (9,(Ckl2479,[Cke197,Cke74],[]),184,Ckc7,[49,11],0),
  (9,(Ckl2478,[Cke197,Cke81],[]),175,Ckc69,[49,11],0),
  (12,(Ckl2480,[],Ckf59),174,Ckc69,[13],0),
  (13,(Ckl2479,[Cke23],Ckf59),203,Ckc7,[14],0),
  (13,(Ckl2480,[Cke866],Ckf59),173,Ckc69,[15],0),
  (14,(Ckl2479,[Cke314,Cke23],Ckf59),202,Ckc7,[16],0),
  (14,(Ckl2480,[Cke314,Cke866],Ckf59),172,Ckc69,[17],0),
  (17,(Ckl2479,[Cke317,Cke23],Ckf59),201,Ckc7,[18],0),
  (17,(Ckl2480,[Cke317,Cke866],Ckf59),171,Ckc69,[19],0),
  (18,(Ckl2479,[Cke74,Cke317,Cke23],Ckf59),200,Ckc7,[20],0),
  (18,(Ckl2480,[Cke84,Cke317,Cke866],Ckf59),170,Ckc69,[21],0),
  (19,(Ckl2479,[Cke867,Cke23],Ckf59),199,Ckc7,[22],0),
  (19,(Ckl2480,[Cke97,Cke866],Ckf59),169,Ckc69,[23],0),
  (20,(Ckl2479,[Cke200,Cke867,Cke23],Ckf59),198,Ckc7,[24],0),
  (20,(Ckl2480,[Cke200,Cke97,Cke866],Ckf59),168,Ckc69,[25],0),
  (23,(Ckl2479,[Cke198,Cke867,Cke23],Ckf59),197,Ckc7,[26],0),
  (23,(Ckl2480,[Cke198,Cke97,Cke866],Ckf59),167,Ckc69,[27],0),
  (24,(Ckl2479,[Cke74,Cke198,Cke867,Cke23],Ckf59),196,Ckc7,[28],0),
  (24,(Ckl2480,[Cke84,Cke198,Cke97,Cke866],Ckf59),166,Ckc69,[29],0),
  (25,(Ckl2479,[Cke286,Cke867,Cke23],Ckf59),195,Ckc7,[30],0),
  (25,(Ckl2480,[Cke199,Cke97,Cke866],Ckf59),165,Ckc69,[31],0),
  (28,(Ckl2479,[Cke97,Cke867,Cke23],Ckf59),194,Ckc7,[40,32],0),
  (28,(Ckl2480,[Cke97,Cke97,Cke866],Ckf59),164,Ckc69,[41,33],0),
  (31,(Ckl2479,[Cke23],Ckf336),191,Ckc7,[34],0),
  (31,(Ckl2480,[Cke866],Ckf59),163,Ckc69,[35],0),
  (32,(Ckl2479,[Cke6,Cke23],Ckf336),190,Ckc7,[36],0),
  (32,(Ckl2480,[Cke6,Cke866],Ckf59),162,Ckc69,[37],0),
  (33,(Ckl2479,[Cke74,Cke6,Cke23],Ckf336),189,Ckc7,[38],0),
  (33,(Ckl2480,[Cke84,Cke6,Cke866],Ckf59),161,Ckc69,[39],0),
  (34,(Ckl2479,[Cke6,Cke23],Ckf336),188,Ckc7,[43],0),
  (34,(Ckl2480,[Cke282,Cke866],Ckf59),160,Ckc69,[45],0),
  (37,(Ckl2479,[Cke23],Ckf336),193,Ckc7,[42],0),
  (37,(Ckl2480,[Cke866],Ckf59),158,Ckc69,[44],0),
  (38,(Ckl2479,[Cke7,Cke23],Ckf336),192,Ckc7,[46],0),
  (38,(Ckl2479,[Cke6,Cke23],Ckf336),187,Ckc7,[46],0),
  (38,(Ckl2480,[Cke7,Cke866],Ckf59),157,Ckc69,[46],0),
  (38,(Ckl2480,[Cke282,Cke866],Ckf59),159,Ckc69,[46],0),
  (39,(Ckl2480,[Cke244],Ckf59),156,Ckc69,[47],0),
  (40,(Ckl2480,[],Ckf59),155,Ckc69,[48],0),
  (43,(Ckl2481,[],Ckf59),179,Ckc69,[4],0),
  (46,(Ckl2478,[],[]),4,Ckc7,[50],0),
  (47,(Ckl2478,[Cke866],[]),3,Ckc7,[51],0),
  (48,(Ckl2478,[Cke314,Cke866],[]),2,Ckc7,[52],0),
  (51,(Ckl2478,[Cke328,Cke866],[]),1,Ckc7,[53],0),
  (52,(Ckl2478,[Cke244],[]),0,Ckc7,[],0)]
def CNC285 : List (List ND) := [CNC285_0]
theorem CKC285 : chkS prot SMsC SMC285 [] CNC285 = true := by decide +kernel
-- OneSided$Plans.peopleDueFrom [(32, 32), (0, 24)]
def Ckl2482 : AL := [some Cka121,some Cka143,none,none]
def Ckl2483 : AL := [some Cka121,some Cka143,some Cka7,none]
def Ckl2484 : AL := [some Cka121,some Cka143,some Cka147,some Cka66]
def Ckl2485 : AL := [some Cka121,some Cka143,some Cka7,some Cka7]
def Ckl2486 : AL := [some Cka121,some Cka143,some Cka147,some Cka67]
def Ckl2487 : AL := [some Cka121,some Cka85,some Cka7,some Cka7]
def Ckl2488 : AL := [some Cka121,some Cka85,some Cka147,some Cka67]
def Ckl2489 : AL := [some Cka121,some Cka143,some Cka147,some Cka68]
def CNC286_0 : List ND := [(0,(Ckl2482,[],[]),159,Ckc7,[1],0),
  (1,(Ckl2482,[Cke7],[]),158,Ckc7,[2],0),
  (2,(Ckl2483,[],[]),157,Ckc7,[3],0),
  (3,(Ckl2483,[Cke7],[]),156,Ckc7,[4],0),
  (4,(Ckl2484,[],[]),154,Ckc70,[6],0),
  (5,(Ckl2485,[Cke74],[]),162,Ckc7,[7],0),
  (5,(Ckl2484,[Cke81],[]),153,Ckc70,[8],0),
  (6,(Ckl2485,[Cke193,Cke74],[]),161,Ckc7,[9],0),
  (6,(Ckl2484,[Cke193,Cke81],[]),152,Ckc70,[10],0),
  (9,(Ckl2485,[Cke197,Cke74],[]),160,Ckc7,[43,11],0),
  (9,(Ckl2484,[Cke197,Cke81],[]),151,Ckc70,[43,11],0),
  (12,(Ckl2486,[],Ckf59),150,Ckc70,[13],0),
  (13,(Ckl2485,[Cke23],Ckf59),176,Ckc7,[14],0),
  (13,(Ckl2486,[Cke866],Ckf59),149,Ckc70,[15],0),
  (14,(Ckl2485,[Cke868,Cke23],Ckf59),175,Ckc7,[16],0),
  (14,(Ckl2486,[Cke868,Cke866],Ckf59),148,Ckc70,[17],0),
  (15,(Ckl2485,[Cke193,Cke868,Cke23],Ckf59),174,Ckc7,[18],0),
  (15,(Ckl2486,[Cke193,Cke868,Cke866],Ckf59),147,Ckc70,[19],0),
  (18,(Ckl2485,[Cke198,Cke868,Cke23],Ckf59),173,Ckc7,[20],0),
  (18,(Ckl2486,[Cke198,Cke868,Cke866],Ckf59),146,Ckc70,[21],0),
  (19,(Ckl2485,[Cke74,Cke198,Cke868,Cke23],Ckf59),172,Ckc7,[22],0),
  (19,(Ckl2486,[Cke84,Cke198,Cke868,Cke866],Ckf59),145,Ckc70,[23],0),
  (20,(Ckl2485,[Cke286,Cke868,Cke23],Ckf59),171,Ckc7,[24],0),
  (20,(Ckl2486,[Cke199,Cke868,Cke866],Ckf59),144,Ckc70,[25],0),
  (23,(Ckl2485,[Cke234,Cke868,Cke23],Ckf59),170,Ckc7,[34,26],0),
  (23,(Ckl2486,[Cke234,Cke868,Cke866],Ckf59),143,Ckc70,[35,27],0),
  (26,(Ckl2485,[Cke23],Ckf59),167,Ckc7,[28],0),
  (26,(Ckl2486,[Cke866],Ckf59),142,Ckc70,[29],0),
  (27,(Ckl2485,[Cke6,Cke23],Ckf59),166,Ckc7,[30],0),
  (27,(Ckl2486,[Cke6,Cke866],Ckf59),141,Ckc70,[31],0),
  (28,(Ckl2485,[Cke74,Cke6,Cke23],Ckf59),165,Ckc7,[32],0),
  (28,(Ckl2486,[Cke84,Cke6,Cke866],Ckf59),140,Ckc70,[33],0),
  (29,(Ckl2485,[Cke6,Cke23],Ckf59),164,Ckc7,[37],0),
  (29,(Ckl2486,[Cke282,Cke866],Ckf59),139,Ckc70,[39],0),
  (32,(Ckl2487,[Cke23],Ckf59),169,Ckc7,[36],0),
  (32,(Ckl2488,[Cke866],Ckf59),137,Ckc70,[38],0),
  (33,(Ckl2487,[Cke7,Cke23],Ckf59),168,Ckc7,[40],0),
  (33,(Ckl2485,[Cke6,Cke23],Ckf59),163,Ckc7,[40],0),
  (33,(Ckl2488,[Cke7,Cke866],Ckf59),136,Ckc70,[40],0),
  (33,(Ckl2486,[Cke282,Cke866],Ckf59),138,Ckc70,[40],0),
  (34,(Ckl2486,[Cke244],Ckf59),135,Ckc70,[41],0),
  (35,(Ckl2486,[],Ckf59),134,Ckc70,[42],0),
  (38,(Ckl2489,[],Ckf59),155,Ckc70,[4],0),
  (41,(Ckl2484,[],[]),1,Ckc7,[44],0),
  (42,(Ckl2484,[Cke866],[]),0,Ckc7,[],0)]
def CNC286 : List (List ND) := [CNC286_0]
theorem CKC286 : chkS prot SMsC SMC286 [] CNC286 = true := by decide +kernel
-- OneSided$Plans.runDay [(77, 77), (32, 32), (68, 68)]
def Ckl2490 : AL := [some Cka182,some Cka121,some Cka166,none,none,none]
def Ckl2491 : AL := [some Cka182,some Cka121,some Cka166,some Cka7,none,none]
def Ckl2492 : AL := [some Cka182,some Cka121,some Cka166,some Cka34,some Cka163,none]
def Ckl2493 : AL := [some Cka182,some Cka121,some Cka166,some Cka34,some Cka143,none]
def Ckl2494 : AL := [some Cka182,some Cka121,some Cka166,some Cka34,some Cka143,some Cka66]
def Ckl2495 : AL := [some Cka182,some Cka121,some Cka166,some Cka7,some Cka143,some Cka7]
def Ckl2496 : AL := [some Cka182,some Cka121,some Cka166,some Cka34,some Cka143,some Cka67]
def Ckl2497 : AL := [some Cka182,some Cka121,some Cka166,some Cka34,some Cka143,some Cka68]
def Ckl2498 : AL := [some Cka182,some Cka121,some Cka166,some Cka7,some Cka143,some Cka66]
def Ckl2499 : AL := [some Cka182,some Cka121,some Cka166,some Cka34,some Cka351,some Cka66]
def Ckl2500 : AL := [some Cka182,some Cka121,some Cka166,some Cka34,some Cka60,none]
def CNC287_0 : List ND := [(0,(Ckl2490,[],[]),2529,Ckc9,[1],0),
  (1,(Ckl2490,[Cke7],[]),2528,Ckc9,[2],0),
  (2,(Ckl2491,[],[]),2527,Ckc9,[3],0),
  (3,(Ckl2491,[Cke863],[]),2526,Ckc9,[4],0),
  (6,(Ckl2491,[Cke325],[]),2525,Ckc9,[5],0),
  (8,(Ckl2492,[],[]),2523,Ckc71,[6],0),
  (10,(Ckl2492,[Cke310],[]),2522,Ckc71,[7],0),
  (12,(Ckl2492,[Cke144,Cke310],[]),2521,Ckc71,[48,8],0),
  (15,(Ckl2493,[],[]),2520,Ckc71,[9],0),
  (16,(Ckl2493,[Cke7],[]),2519,Ckc71,[10],0),
  (18,(Ckl2494,[],[]),2517,Ckc72,[12],0),
  (20,(Ckl2495,[Cke216],[]),2532,Ckc9,[13],0),
  (20,(Ckl2494,[Cke871],[]),2516,Ckc72,[14],0),
  (21,(Ckl2495,[Cke200,Cke216],[]),2531,Ckc9,[15],0),
  (21,(Ckl2494,[Cke200,Cke871],[]),2515,Ckc72,[16],0),
  (24,(Ckl2495,[Cke197,Cke216],[]),2530,Ckc9,[25,17],0),
  (24,(Ckl2494,[Cke197,Cke871],[]),2514,Ckc72,[25,17],0),
  (27,(Ckl2496,[],Ckf59),2513,Ckc72,[18],0),
  (28,(Ckl2496,[Cke381],Ckf59),2512,Ckc72,[19],0),
  (29,(Ckl2496,[Cke200,Cke381],Ckf59),2511,Ckc72,[20],0),
  (30,(Ckl2496,[Cke863,Cke200,Cke381],Ckf59),2510,Ckc72,[22],0),
  (32,(Ckl2495,[Cke216,Cke863,Cke200,Cke381],Ckf59),2533,Ckc9,[23],284),
  (32,(Ckl2496,[Cke872,Cke863,Cke200,Cke381],Ckf59),2509,Ckc72,[23],284),
  (35,(Ckl2496,[],Ckf59),2508,Ckc72,[24],0),
  (38,(Ckl2497,[],Ckf59),2518,Ckc72,[10],0),
  (41,(Ckl2494,[],[]),2441,Ckc71,[27],0),
  (42,(Ckl2498,[Cke74],[]),2541,Ckc9,[28],0),
  (42,(Ckl2494,[Cke210],[]),2440,Ckc71,[29],0),
  (43,(Ckl2498,[Cke863,Cke74],[]),2540,Ckc9,[30],0),
  (43,(Ckl2494,[Cke863,Cke210],[]),2439,Ckc71,[31],0),
  (44,(Ckl2498,[Cke200,Cke863,Cke74],[]),2539,Ckc9,[32],285),
  (44,(Ckl2494,[Cke200,Cke863,Cke210],[]),2438,Ckc71,[33],285),
  (47,(Ckl2498,[Cke244,Cke74],[]),2538,Ckc9,[34],0),
  (47,(Ckl2494,[Cke244,Cke210],[]),2437,Ckc71,[35],0),
  (48,(Ckl2498,[Cke200,Cke244,Cke74],[]),2537,Ckc9,[36],0),
  (48,(Ckl2494,[Cke200,Cke244,Cke210],[]),2436,Ckc71,[37],0),
  (50,(Ckl2498,[Cke417,Cke200,Cke244,Cke74],[]),2536,Ckc9,[38],286),
  (50,(Ckl2494,[Cke417,Cke200,Cke244,Cke210],[]),2435,Ckc71,[39],286),
  (53,(Ckl2498,[Cke244,Cke244,Cke74],[]),2535,Ckc9,[40],0),
  (53,(Ckl2494,[Cke244,Cke244,Cke210],[]),2434,Ckc71,[41],0),
  (54,(Ckl2498,[Cke244,Cke74],[]),2534,Ckc9,[42],0),
  (54,(Ckl2494,[Cke244,Cke210],[]),2433,Ckc71,[42],0),
  (55,(Ckl2494,[Cke184],[]),2432,Ckc71,[43],0),
  (56,(Ckl2494,[],[]),2431,Ckc71,[44],0),
  (57,(Ckl2494,[Cke863],[]),2430,Ckc71,[45],0),
  (58,(Ckl2494,[Cke6,Cke863],[]),2429,Ckc71,[46],278),
  (61,(Ckl2494,[],[]),2428,Ckc71,[47],0),
  (64,(Ckl2499,[],[]),2524,Ckc71,[5],0),
  (67,(Ckl2500,[],[]),2,Ckc9,[49],0),
  (68,(Ckl2500,[Cke210],[]),1,Ckc9,[50],207),
  (71,(Ckl2500,[Cke539],[]),0,Ckc9,[],0)]
def CNC287 : List (List ND) := [CNC287_0]
theorem CKC287 : chkS prot SMsC SMC287 [] CNC287 = true := by decide +kernel
-- OneSided.run [(1, 1), (-2147483648, 2147483647)]
def Ckl2501 : AL := [some Cka161,some Cka34,none,none]
def Ckl2502 : AL := [some Cka161,some Cka96,none,none]
def Ckl2503 : AL := [some Cka161,some Cka96,some Cka166,none]
def Ckl2504 : AL := [some Cka161,some Cka96,some Cka166,some Cka252]
def Cke873 : SE := (Cka96,(1,1,0,0,0))
def Ckl2505 : AL := [some Cka161,some Cka7,some Cka166,some Cka252]
def Cke874 : SE := (Cka252,(1,3,0,0,0))
def Ckl2506 : AL := [some Cka161,some Cka6,some Cka166,some Cka252]
def Cka352 : AV := (0,-63,6,1)
def Cke875 : SE := (Cka352,pv0)
def CNC288_0 : List ND := [(0,(Ckl2501,[],[]),40,Ckc7,[1],0),
  (1,(Ckl2501,[Cke156],[]),39,Ckc7,[7,2],0),
  (4,(Ckl2501,[],[]),38,Ckc7,[3],0),
  (5,(Ckl2501,[Cke156],[]),37,Ckc7,[4],0),
  (6,(Ckl2501,[Cke6,Cke156],[]),36,Ckc7,[7,5],0),
  (9,(Ckl2501,[],[]),1,Ckc7,[6],0),
  (10,(Ckl2501,[Cke51],[]),0,Ckc7,[],0),
  (11,(Ckl2502,[],[]),35,Ckc7,[8],0),
  (12,(Ckl2502,[Cke288],[]),34,Ckc7,[9],0),
  (15,(Ckl2502,[Cke338],[]),33,Ckc7,[10],0),
  (18,(Ckl2502,[Cke339],[]),32,Ckc7,[11],0),
  (19,(Ckl2503,[],[]),31,Ckc7,[12],0),
  (20,(Ckl2503,[Cke863],[]),30,Ckc7,[13],0),
  (21,(Ckl2503,[Cke288,Cke863],[]),29,Ckc7,[14],0),
  (24,(Ckl2503,[Cke298,Cke863],[]),28,Ckc7,[15],0),
  (27,(Ckl2503,[Cke284,Cke863],[]),27,Ckc7,[16],149),
  (30,(Ckl2503,[],[]),26,Ckc7,[17],0),
  (31,(Ckl2503,[Cke288],[]),25,Ckc7,[18],0),
  (34,(Ckl2503,[Cke360],[]),24,Ckc7,[19],0),
  (35,(Ckl2503,[Cke288,Cke360],[]),23,Ckc7,[21,20],0),
  (38,(Ckl2503,[Cke290,Cke360],[]),22,Ckc7,[22],0),
  (38,(Ckl2503,[Cke291,Cke360],[]),20,Ckc7,[23],0),
  (39,(Ckl2503,[Cke863,Cke290,Cke360],[]),21,Ckc7,[24],287),
  (39,(Ckl2503,[Cke863,Cke291,Cke360],[]),19,Ckc7,[24],279),
  (42,(Ckl2503,[Cke539],[]),18,Ckc7,[25],0),
  (43,(Ckl2504,[],[]),17,Ckc7,[26],0),
  (44,(Ckl2504,[Cke873],[]),16,Ckc7,[29,27],0),
  (47,(Ckl2505,[],[]),3,Ckc7,[28],0),
  (48,(Ckl2505,[Cke874],[]),2,Ckc7,[],0),
  (49,(Ckl2506,[],[]),15,Ckc7,[30],0),
  (50,(Ckl2506,[Cke288],[]),14,Ckc7,[32,31],0),
  (53,(Ckl2506,[Cke290],[]),13,Ckc7,[33],0),
  (53,(Ckl2506,[Cke291],[]),12,Ckc7,[33],0),
  (56,(Ckl2506,[Cke304],[]),11,Ckc7,[34],0),
  (57,(Ckl2506,[Cke863,Cke304],[]),10,Ckc7,[35],0),
  (58,(Ckl2506,[Cke288,Cke863,Cke304],[]),9,Ckc7,[37,36],0),
  (61,(Ckl2506,[Cke290,Cke863,Cke304],[]),7,Ckc7,[38],285),
  (61,(Ckl2506,[Cke291,Cke863,Cke304],[]),8,Ckc7,[38],275),
  (64,(Ckl2506,[Cke244,Cke304],[]),6,Ckc7,[39],207),
  (67,(Ckl2506,[Cke539,Cke304],[]),5,Ckc7,[40],0),
  (68,(Ckl2506,[Cke875],[]),4,Ckc7,[],0)]
def CNC288 : List (List ND) := [CNC288_0]
theorem CKC288 : chkS prot SMsC SMC288 [] CNC288 = true := by decide +kernel
-- OneSided$Plans.nextDraw [(-9223372036854775808, 9223372036854775807)]
def Ckl2507 : AL := [some Cka8,none]
def Cka353 : AV := (1,1103515245,1103515245,0)
def Cke876 : SE := (Cka353,pv0)
def Cka354 : AV := (1,12345,12345,0)
def Cke877 : SE := (Cka354,pv0)
def Cka355 : AV := (1,2147483648,2147483648,0)
def Cke878 : SE := (Cka355,pv0)
def CNC289_0 : List ND := [(0,(Ckl2507,[],[]),7,Ckc0,[1],0),
  (1,(Ckl2507,[Cke8],[]),6,Ckc0,[2],0),
  (4,(Ckl2507,[Cke876,Cke8],[]),5,Ckc0,[3],0),
  (5,(Ckl2507,[Cke10],[]),4,Ckc0,[4],0),
  (8,(Ckl2507,[Cke877,Cke10],[]),3,Ckc0,[5],0),
  (9,(Ckl2507,[Cke10],[]),2,Ckc0,[6],0),
  (12,(Ckl2507,[Cke878,Cke10],[]),1,Ckc0,[7],0),
  (13,(Ckl2507,[Cke10],[]),0,Ckc0,[],0)]
def CNC289 : List (List ND) := [CNC289_0]
theorem CKC289 : chkS prot SMsC SMC289 [] CNC289 = true := by decide +kernel
-- OneSided$Plans.below [(-9223372036854775808, 9223372036854775807), (0, 14)]
def Ckl2508 : AL := [some Cka8,none,some Cka61]
def Ckl2509 : AL := [some Cka8,none,some Cka63]
def Cka356 : AV := (1,65536,65536,0)
def Cke879 : SE := (Cka356,pv0)
def Cke880 : SE := (Cka63,(1,2,0,0,0))
def Cka357 : AV := (1,1,14,1)
def Cke881 : SE := (Cka357,pv0)
def Ckl2510 : AL := [some Cka8,none,some Cka7]
def CNC290_0 : List ND := [(0,(Ckl2508,[],[]),12,Ckc1,[1],0),
  (1,(Ckl2508,[Cke107],[]),11,Ckc1,[10,2],0),
  (4,(Ckl2509,[],[]),8,Ckc1,[3],0),
  (5,(Ckl2509,[Cke8],[]),7,Ckc1,[4],0),
  (8,(Ckl2509,[Cke879,Cke8],[]),6,Ckc1,[5],0),
  (9,(Ckl2509,[Cke10],[]),5,Ckc1,[6],0),
  (10,(Ckl2509,[Cke880,Cke10],[]),4,Ckc1,[7],0),
  (11,(Ckl2509,[Cke881,Cke10],[]),3,Ckc1,[8],0),
  (12,(Ckl2509,[Cke10],[]),2,Ckc1,[9],0),
  (13,(Ckl2509,[Cke184],[]),1,Ckc1,[12],0),
  (16,(Ckl2510,[],[]),10,Ckc1,[11],0),
  (17,(Ckl2510,[Cke7],[]),9,Ckc1,[],0),
  (17,(Ckl2509,[Cke184],[]),0,Ckc1,[],0)]
def CNC290 : List (List ND) := [CNC290_0]
theorem CKC290 : chkS prot SMsC SMC290 [] CNC290 = true := by decide +kernel
-- OneSided$Plans.below [(-9223372036854775808, 9223372036854775807), (10, 10)]
def Ckl2511 : AL := [some Cka8,none,some Cka46]
def CNC291_0 : List ND := [(0,(Ckl2511,[],[]),10,Ckc1,[1],0),
  (1,(Ckl2511,[Cke65],[]),9,Ckc1,[2],0),
  (4,(Ckl2511,[],[]),8,Ckc1,[3],0),
  (5,(Ckl2511,[Cke8],[]),7,Ckc1,[4],0),
  (8,(Ckl2511,[Cke879,Cke8],[]),6,Ckc1,[5],0),
  (9,(Ckl2511,[Cke10],[]),5,Ckc1,[6],0),
  (10,(Ckl2511,[Cke65,Cke10],[]),4,Ckc1,[7],0),
  (11,(Ckl2511,[Cke32,Cke10],[]),3,Ckc1,[8],0),
  (12,(Ckl2511,[Cke10],[]),2,Ckc1,[9],0),
  (13,(Ckl2511,[Cke184],[]),1,Ckc1,[10],0),
  (17,(Ckl2511,[Cke184],[]),0,Ckc1,[],0)]
def CNC291 : List (List ND) := [CNC291_0]
theorem CKC291 : chkS prot SMsC SMC291 [] CNC291 = true := by decide +kernel
-- OneSided$Scene.begin [(68, 68), (5, 5)]
def Ckf337 : FA := [(68,0,Cka7)]
def Ckf338 : FA := [(68,0,Cka7),(68,1,Cka7)]
def Ckf339 : FA := [(68,0,Cka7),(68,1,Cka7),(68,2,Cka7)]
def Ckf340 : FA := [(68,0,Cka7),(68,1,Cka7),(68,2,Cka7),(68,3,Cka7)]
def Ckl2512 : AL := [some Cka166,some Cka50,some Cka68,some Cka70]
def Ckf341 : FA := [(5,4,Cka68),(68,0,Cka7),(68,1,Cka7),(68,2,Cka7),(68,3,Cka147)]
def Ckl2513 : AL := [some Cka166,some Cka50,some Cka6,some Cka70]
def Ckf342 : FA := [(5,4,Cka68),(68,0,Cka7),(68,1,Cka7),(68,2,Cka7),(68,3,Cka96)]
def Ckf343 : FA := [(5,4,Cka68),(68,0,Cka7),(68,1,Cka7),(68,2,Cka7),(68,3,Cka7)]
def Ckl2514 : AL := [some Cka166,some Cka50,some Cka51,some Cka70]
def Ckf344 : FA := [(5,4,Cka158),(68,0,Cka7),(68,1,Cka7),(68,2,Cka7),(68,3,Cka147)]
def Ckf345 : FA := [(5,4,Cka158),(68,0,Cka7),(68,1,Cka7),(68,2,Cka7),(68,3,Cka96)]
def Ckl2515 : AL := [some Cka166,some Cka50,some Cka67,some Cka70]
def Ckl2516 : AL := [some Cka166,some Cka50,some Cka7,some Cka70]
def Cke882 : SE := (Cka7,(2,68,3,0,0))
def Cke883 : SE := (Cka147,(2,68,3,0,0))
def Ckf346 : FA := [(5,4,Cka7),(68,0,Cka7),(68,1,Cka7),(68,2,Cka7),(68,3,Cka7)]
def CNC292_0 : List ND := [(0,(Ckl2291,[],[]),259,Ckc7,[1],0),
  (1,(Ckl2291,[Cke314],[]),258,Ckc7,[2],0),
  (2,(Ckl2291,[Cke7,Cke314],[]),257,Ckc7,[3],0),
  (5,(Ckl2291,[],Ckf337),256,Ckc7,[4],0),
  (6,(Ckl2291,[Cke314],Ckf337),255,Ckc7,[5],0),
  (7,(Ckl2291,[Cke7,Cke314],Ckf337),254,Ckc7,[6],0),
  (10,(Ckl2291,[],Ckf338),253,Ckc7,[7],0),
  (11,(Ckl2291,[Cke314],Ckf338),252,Ckc7,[8],0),
  (12,(Ckl2291,[Cke7,Cke314],Ckf338),251,Ckc7,[9],0),
  (15,(Ckl2291,[],Ckf339),250,Ckc7,[10],0),
  (16,(Ckl2291,[Cke314],Ckf339),249,Ckc7,[11],0),
  (17,(Ckl2291,[Cke7,Cke314],Ckf339),248,Ckc7,[12],0),
  (20,(Ckl2291,[],Ckf340),247,Ckc7,[13],0),
  (21,(Ckl2291,[Cke314],Ckf340),246,Ckc7,[14],0),
  (24,(Ckl2291,[Cke318],Ckf340),245,Ckc7,[15],0),
  (25,(Ckl2291,[Cke7,Cke318],Ckf340),244,Ckc7,[16],277),
  (28,(Ckl2291,[],Ckf340),243,Ckc7,[17],0),
  (29,(Ckl2291,[Cke7],Ckf340),242,Ckc7,[18],0),
  (30,(Ckl2292,[],Ckf340),241,Ckc7,[20],0),
  (30,(Ckl2512,[],Ckf341),230,Ckc21,[22],0),
  (31,(Ckl2292,[Cke23],Ckf340),240,Ckc7,[23],0),
  (31,(Ckl2513,[Cke180],Ckf342),262,Ckc7,[24],0),
  (31,(Ckl2512,[Cke273],Ckf341),229,Ckc21,[25],0),
  (32,(Ckl2292,[Cke86,Cke23],Ckf340),239,Ckc7,[26],0),
  (32,(Ckl2513,[Cke86,Cke180],Ckf342),261,Ckc7,[27],0),
  (32,(Ckl2512,[Cke86,Cke273],Ckf341),228,Ckc21,[28],0),
  (35,(Ckl2292,[Cke82,Cke23],Ckf340),238,Ckc7,[79,29],0),
  (35,(Ckl2513,[Cke274,Cke180],Ckf342),260,Ckc7,[80,30],0),
  (35,(Ckl2512,[Cke274,Cke273],Ckf341),227,Ckc21,[80,30],0),
  (38,(Ckl2292,[],Ckf343),236,Ckc7,[31],0),
  (38,(Ckl2514,[],Ckf344),226,Ckc21,[32],0),
  (39,(Ckl2292,[Cke86],Ckf343),235,Ckc7,[33],0),
  (39,(Ckl2514,[Cke86],Ckf344),225,Ckc21,[34],0),
  (42,(Ckl2292,[Cke83],Ckf343),234,Ckc7,[35],0),
  (42,(Ckl2514,[Cke83],Ckf344),224,Ckc21,[37],0),
  (43,(Ckl2292,[Cke23,Cke83],Ckf343),233,Ckc7,[38],0),
  (43,(Ckl2513,[Cke180,Cke83],Ckf345),263,Ckc7,[39],0),
  (43,(Ckl2514,[Cke275,Cke83],Ckf344),223,Ckc21,[39],0),
  (44,(Ckl2292,[Cke276],Ckf343),232,Ckc7,[40],0),
  (44,(Ckl2514,[Cke85],Ckf344),222,Ckc21,[40],0),
  (45,(Ckl2515,[],Ckf341),221,Ckc21,[41],0),
  (46,(Ckl2515,[Cke314],Ckf341),220,Ckc21,[42],0),
  (49,(Ckl2515,[Cke317],Ckf341),219,Ckc21,[44],0),
  (50,(Ckl2516,[Cke23,Cke317],Ckf343),266,Ckc7,[45],0),
  (50,(Ckl2515,[Cke278,Cke317],Ckf341),218,Ckc21,[46],0),
  (51,(Ckl2516,[Cke279,Cke23,Cke317],Ckf343),265,Ckc7,[47],0),
  (51,(Ckl2515,[Cke279,Cke278,Cke317],Ckf341),217,Ckc21,[48],0),
  (54,(Ckl2516,[Cke97,Cke23,Cke317],Ckf343),264,Ckc7,[49],0),
  (54,(Ckl2515,[Cke97,Cke278,Cke317],Ckf341),216,Ckc21,[49],0),
  (55,(Ckl2515,[],Ckf341),215,Ckc21,[50],0),
  (56,(Ckl2515,[Cke314],Ckf341),214,Ckc21,[51],0),
  (57,(Ckl2515,[Cke314,Cke314],Ckf341),213,Ckc21,[53],0),
  (60,(Ckl2516,[Cke882,Cke314],Ckf343),278,Ckc7,[54],0),
  (60,(Ckl2515,[Cke883,Cke314],Ckf341),212,Ckc21,[55],0),
  (61,(Ckl2516,[Cke279,Cke882,Cke314],Ckf343),277,Ckc7,[56],0),
  (61,(Ckl2515,[Cke279,Cke883,Cke314],Ckf341),211,Ckc21,[57],0),
  (64,(Ckl2516,[Cke97,Cke882,Cke314],Ckf343),276,Ckc7,[58],0),
  (64,(Ckl2515,[Cke97,Cke883,Cke314],Ckf341),210,Ckc21,[59],0),
  (65,(Ckl2516,[Cke279,Cke97,Cke882,Cke314],Ckf343),275,Ckc7,[60],0),
  (65,(Ckl2515,[Cke279,Cke97,Cke883,Cke314],Ckf341),209,Ckc21,[61],0),
  (68,(Ckl2516,[Cke97,Cke97,Cke882,Cke314],Ckf343),274,Ckc7,[70,62],0),
  (68,(Ckl2515,[Cke97,Cke97,Cke883,Cke314],Ckf341),208,Ckc21,[71,63],0),
  (71,(Ckl2516,[Cke882,Cke314],Ckf343),271,Ckc7,[64],0),
  (71,(Ckl2515,[Cke883,Cke314],Ckf341),205,Ckc21,[65],0)]
def CNC292_1 : List ND := [(72,(Ckl2516,[Cke6,Cke882,Cke314],Ckf343),270,Ckc7,[66],0),
  (72,(Ckl2515,[Cke6,Cke883,Cke314],Ckf341),204,Ckc21,[67],0),
  (73,(Ckl2516,[Cke23,Cke6,Cke882,Cke314],Ckf343),269,Ckc7,[68],0),
  (73,(Ckl2515,[Cke278,Cke6,Cke883,Cke314],Ckf341),203,Ckc21,[69],0),
  (74,(Ckl2516,[Cke6,Cke882,Cke314],Ckf343),268,Ckc7,[73],0),
  (74,(Ckl2515,[Cke282,Cke883,Cke314],Ckf341),202,Ckc21,[75],0),
  (77,(Ckl2516,[Cke882,Cke314],Ckf343),273,Ckc7,[72],0),
  (77,(Ckl2515,[Cke883,Cke314],Ckf341),207,Ckc21,[74],0),
  (78,(Ckl2516,[Cke7,Cke882,Cke314],Ckf343),272,Ckc7,[76],0),
  (78,(Ckl2516,[Cke6,Cke882,Cke314],Ckf343),267,Ckc7,[76],0),
  (78,(Ckl2515,[Cke7,Cke883,Cke314],Ckf341),206,Ckc21,[76],0),
  (78,(Ckl2515,[Cke282,Cke883,Cke314],Ckf341),201,Ckc21,[76],0),
  (79,(Ckl2515,[Cke244,Cke314],Ckf341),200,Ckc21,[77],0),
  (82,(Ckl2515,[],Ckf341),199,Ckc21,[78],0),
  (85,(Ckl2512,[],Ckf341),231,Ckc21,[19],0),
  (88,(Ckl2292,[],Ckf346),237,Ckc7,[],0),
  (88,(Ckl2512,[],Ckf341),0,Ckc7,[],0)]
def CNC292 : List (List ND) := [CNC292_0, CNC292_1]
theorem CKC292 : chkS prot SMsC SMC292 [] CNC292 = true := by decide +kernel
-- OneSided$Plans.doneInTime [(77, 77), (5, 5), (68, 68)]
def Ckl2517 : AL := [some Cka182,some Cka50,some Cka166,some Cka34,some Cka66,none]
def Ckc73 : List Int := [0,0,0,0,-23,0]
def Ckl2518 : AL := [some Cka182,some Cka50,some Cka166,some Cka7,some Cka7,none]
def Cke884 : SE := (Cka66,(1,4,0,0,0))
def Ckl2519 : AL := [some Cka182,some Cka50,some Cka166,some Cka34,some Cka67,none]
def Cke885 : SE := (Cka67,(1,4,0,0,0))
def Ckl2520 : AL := [some Cka182,some Cka50,some Cka166,some Cka34,some Cka67,some Cka101]
def Cke886 : SE := (Cka101,(1,5,0,0,0))
def Ckl2521 : AL := [some Cka182,some Cka50,some Cka166,some Cka34,some Cka67,some Cka143]
def Cke887 : SE := (Cka143,(1,5,0,0,0))
def Ckl2522 : AL := [some Cka182,some Cka50,some Cka166,some Cka7,some Cka7,some Cka143]
def Ckl2523 : AL := [some Cka182,some Cka50,some Cka166,some Cka34,some Cka68,some Cka101]
def CNC293_0 : List ND := [(0,(Ckl2313,[],[]),166,Ckc9,[1],0),
  (1,(Ckl2313,[Cke7],[]),165,Ckc9,[2],0),
  (2,(Ckl2314,[],[]),164,Ckc9,[3],0),
  (3,(Ckl2314,[Cke7],[]),163,Ckc9,[4],0),
  (5,(Ckl2517,[],[]),161,Ckc73,[6],0),
  (7,(Ckl2518,[Cke166],[]),169,Ckc9,[7],0),
  (7,(Ckl2517,[Cke884],[]),160,Ckc73,[8],0),
  (8,(Ckl2518,[Cke86,Cke166],[]),168,Ckc9,[9],0),
  (8,(Ckl2517,[Cke86,Cke884],[]),159,Ckc73,[10],0),
  (11,(Ckl2518,[Cke82,Cke166],[]),167,Ckc9,[32,11],0),
  (11,(Ckl2517,[Cke82,Cke884],[]),158,Ckc73,[32,11],0),
  (14,(Ckl2519,[],Ckf32),157,Ckc73,[12],0),
  (15,(Ckl2519,[Cke381],Ckf32),156,Ckc73,[13],0),
  (16,(Ckl2519,[Cke86,Cke381],Ckf32),155,Ckc73,[14],0),
  (17,(Ckl2519,[Cke863,Cke86,Cke381],Ckf32),154,Ckc73,[16],0),
  (19,(Ckl2518,[Cke166,Cke863,Cke86,Cke381],Ckf32),170,Ckc9,[17],271),
  (19,(Ckl2519,[Cke885,Cke863,Cke86,Cke381],Ckf32),153,Ckc73,[17],271),
  (22,(Ckl2519,[Cke362],Ckf32),152,Ckc73,[18],0),
  (24,(Ckl2520,[],Ckf32),151,Ckc73,[19],0),
  (26,(Ckl2520,[Cke886],Ckf32),150,Ckc73,[20],0),
  (27,(Ckl2520,[Cke51,Cke886],Ckf32),149,Ckc73,[30,21],0),
  (30,(Ckl2521,[],Ckf32),148,Ckc73,[22],0),
  (32,(Ckl2521,[Cke887],Ckf32),147,Ckc73,[23],0),
  (33,(Ckl2521,[Cke86,Cke887],Ckf32),146,Ckc73,[24],0),
  (36,(Ckl2521,[Cke83,Cke887],Ckf32),145,Ckc73,[26],0),
  (38,(Ckl2522,[Cke166,Cke83,Cke887],Ckf32),171,Ckc9,[27],0),
  (38,(Ckl2521,[Cke885,Cke83,Cke887],Ckf32),144,Ckc73,[27],0),
  (39,(Ckl2521,[Cke85,Cke887],Ckf32),143,Ckc73,[28],0),
  (42,(Ckl2521,[Cke234,Cke887],Ckf32),142,Ckc73,[30,29],0),
  (45,(Ckl2521,[],Ckf32),141,Ckc73,[30],0),
  (48,(Ckl2520,[],Ckf32),140,Ckc73,[31],0),
  (51,(Ckl2523,[],Ckf32),162,Ckc73,[4],0),
  (54,(Ckl2517,[],[]),1,Ckc9,[33],0),
  (55,(Ckl2517,[Cke210],[]),0,Ckc9,[],0)]
def CNC293 : List (List ND) := [CNC293_0]
theorem CKC293 : chkS prot SMsC SMC293 [] CNC293 = true := by decide +kernel
-- OneSided$Plans.runYears [(77, 77), (5, 5), (68, 68), (-2147483648, 2147483647), (0, 9999), (1, 60), (1, 1)]
def Cka358 : AV := (0,0,9999,1)
def Cka359 : AV := (0,1,60,1)
def Ckl2524 : AL := [some Cka182,some Cka50,some Cka166,some Cka34,some Cka358,some Cka359,some Cka6,none,none,none,none,none,none,none]
def Cke888 : SE := (Cka358,(1,4,0,0,0))
def Cka360 : AV := (1,0,9999,1)
def Cke889 : SE := (Cka360,pv0)
def Ckl2525 : AL := [some Cka182,some Cka50,some Cka166,some Cka34,some Cka358,some Cka359,some Cka6,some Cka360,none,none,none,none,none,none]
def Ckl2526 : AL := [some Cka182,some Cka50,some Cka166,some Cka34,some Cka358,some Cka359,some Cka6,some Cka360,none,some Cka34,none,none,none,none]
def Ckl2527 : AL := [some Cka182,some Cka50,some Cka166,some Cka34,some Cka358,some Cka359,some Cka6,some Cka360,none,some Cka34,some Cka7,none,none,none]
def Ckl2528 : AL := [some Cka182,some Cka50,some Cka166,some Cka34,some Cka358,some Cka359,some Cka6,some Cka360,none,some Cka34,some Cka7,some Cka97,none,none]
def Cka361 : AV := (0,-2147483648,6,1)
def Cka362 : AV := (0,0,60,1)
def Ckl2529 : AL := [some Cka182,some Cka50,some Cka166,some Cka34,some Cka358,some Cka359,some Cka6,some Cka8,none,some Cka34,some Cka34,some Cka361,some Cka362,none]
def Ckc74 : List Int := [0,0,0,0,0,0,0,0,0,0,0,0,-45,0]
def Ckl2530 : AL := [some Cka182,some Cka50,some Cka166,some Cka34,some Cka358,some Cka359,some Cka6,some Cka360,none,some Cka34,some Cka7,some Cka97,some Cka7,none]
def Cke890 : SE := (Cka7,(1,12,0,0,0))
def Cke891 : SE := (Cka362,(1,12,0,0,0))
def Cke892 : SE := (Cka359,(1,5,0,0,0))
def Cka363 : AV := (0,0,59,1)
def Ckl2531 : AL := [some Cka182,some Cka50,some Cka166,some Cka34,some Cka358,some Cka359,some Cka6,some Cka8,none,some Cka34,some Cka34,some Cka361,some Cka363,none]
def Cke893 : SE := (Cka8,(1,7,0,0,0))
def Ckl2532 : AL := [some Cka182,some Cka50,some Cka166,some Cka34,some Cka358,some Cka359,some Cka6,some Cka8,none,some Cka34,some Cka34,some Cka361,some Cka363,some Cka34]
def Ckl2533 : AL := [some Cka182,some Cka50,some Cka166,some Cka34,some Cka358,some Cka359,some Cka6,some Cka8,none,some Cka34,some Cka7,some Cka97,some Cka7,some Cka34]
def Cke894 : SE := (Cka361,(1,11,0,0,0))
def Cke895 : SE := (Cka361,pv0)
def Ckl2534 : AL := [some Cka182,some Cka50,some Cka166,some Cka34,some Cka358,some Cka359,some Cka6,some Cka8,none,some Cka34,some Cka34,some Cka361,some Cka359,some Cka34]
def Ckl2535 : AL := [some Cka182,some Cka50,some Cka166,some Cka34,some Cka358,some Cka359,some Cka6,some Cka8,none,some Cka34,some Cka34,some Cka361,some Cka359,none]
def Cke896 : SE := (Cka6,(1,6,0,0,0))
def CNC294_0 : List ND := [(0,(Ckl2524,[],[]),2760,Ckc38,[1],0),
  (2,(Ckl2524,[Cke888],[]),2759,Ckc38,[2],0),
  (3,(Ckl2524,[Cke889],[]),2758,Ckc38,[3],0),
  (5,(Ckl2525,[],[]),2757,Ckc38,[4],0),
  (6,(Ckl2525,[Cke210],[]),2756,Ckc38,[5],0),
  (8,(Ckl2526,[],[]),2755,Ckc38,[6],0),
  (9,(Ckl2526,[Cke7],[]),2754,Ckc38,[7],0),
  (11,(Ckl2527,[],[]),2753,Ckc38,[8],0),
  (13,(Ckl2527,[Cke147],[]),2752,Ckc38,[9],0),
  (15,(Ckl2528,[],[]),2751,Ckc38,[10],0),
  (16,(Ckl2528,[Cke7],[]),2750,Ckc38,[11],0),
  (18,(Ckl2529,[],[]),2748,Ckc74,[13],0),
  (20,(Ckl2530,[Cke890],[]),2762,Ckc38,[14],0),
  (20,(Ckl2529,[Cke891],[]),2747,Ckc74,[15],0),
  (22,(Ckl2530,[Cke892,Cke890],[]),2761,Ckc38,[16],0),
  (22,(Ckl2529,[Cke892,Cke891],[]),2746,Ckc74,[60,16],0),
  (25,(Ckl2531,[],[]),2745,Ckc74,[17],0),
  (27,(Ckl2531,[Cke893],[]),2744,Ckc74,[18],289),
  (30,(Ckl2531,[Cke10],[]),2743,Ckc74,[19],0),
  (32,(Ckl2531,[],[]),2742,Ckc74,[20],0),
  (34,(Ckl2531,[Cke403],[]),2741,Ckc74,[21],0),
  (35,(Ckl2531,[Cke6,Cke403],[]),2740,Ckc74,[22],0),
  (37,(Ckl2531,[Cke893,Cke6,Cke403],[]),2739,Ckc74,[23],0),
  (38,(Ckl2531,[Cke86,Cke893,Cke6,Cke403],[]),2738,Ckc74,[24],0),
  (41,(Ckl2531,[Cke76,Cke893,Cke6,Cke403],[]),2737,Ckc74,[25],290),
  (44,(Ckl2531,[Cke184,Cke6,Cke403],[]),2736,Ckc74,[26],0),
  (45,(Ckl2531,[Cke184,Cke403],[]),2735,Ckc74,[27],0),
  (46,(Ckl2531,[Cke184],[]),2734,Ckc74,[28],0),
  (48,(Ckl2531,[],[]),2733,Ckc74,[29],0),
  (50,(Ckl2531,[Cke893],[]),2732,Ckc74,[30],289),
  (53,(Ckl2531,[Cke10],[]),2731,Ckc74,[31],0),
  (55,(Ckl2531,[],[]),2730,Ckc74,[32],0),
  (57,(Ckl2531,[Cke893],[]),2729,Ckc74,[33],0),
  (59,(Ckl2531,[Cke48,Cke893],[]),2728,Ckc74,[34],291),
  (62,(Ckl2531,[Cke184],[]),2727,Ckc74,[37,35],0),
  (65,(Ckl2531,[],[]),2726,Ckc74,[36],0),
  (66,(Ckl2531,[Cke7],[]),2725,Ckc74,[37],0),
  (68,(Ckl2531,[],[]),2724,Ckc74,[38],0),
  (69,(Ckl2531,[Cke863],[]),2723,Ckc74,[39],0),
  (70,(Ckl2531,[Cke86,Cke863],[]),2722,Ckc74,[40],292),
  (73,(Ckl2531,[],[]),2721,Ckc74,[41],0),
  (74,(Ckl2531,[Cke863],[]),2720,Ckc74,[42],0),
  (76,(Ckl2531,[Cke403,Cke863],[]),2719,Ckc74,[43],0),
  (79,(Ckl2531,[],[]),2718,Ckc74,[44],0),
  (80,(Ckl2531,[Cke381],[]),2717,Ckc74,[45],0),
  (81,(Ckl2531,[Cke86,Cke381],[]),2716,Ckc74,[46],0),
  (82,(Ckl2531,[Cke863,Cke86,Cke381],[]),2715,Ckc74,[47],293),
  (85,(Ckl2531,[Cke184],[]),2714,Ckc74,[48],0),
  (87,(Ckl2532,[],[]),2713,Ckc74,[50],0),
  (89,(Ckl2533,[Cke397],[]),2764,Ckc38,[51],0),
  (89,(Ckl2532,[Cke822],[]),2712,Ckc74,[52],0),
  (91,(Ckl2533,[Cke548,Cke397],[]),2763,Ckc38,[53],0),
  (91,(Ckl2532,[Cke548,Cke822],[]),2711,Ckc74,[53],0),
  (92,(Ckl2532,[Cke184],[]),2710,Ckc74,[54],0),
  (94,(Ckl2532,[],[]),2709,Ckc74,[55],0),
  (96,(Ckl2532,[Cke894],[]),2708,Ckc74,[56],0),
  (98,(Ckl2532,[Cke548,Cke894],[]),2707,Ckc74,[57],0),
  (101,(Ckl2532,[Cke895],[]),2706,Ckc74,[58],0),
  (103,(Ckl2532,[],[]),2705,Ckc74,[59],0),
  (106,(Ckl2534,[],[]),2749,Ckc74,[11],0),
  (109,(Ckl2535,[],[]),4,Ckc38,[61],0),
  (111,(Ckl2535,[Cke896],[]),3,Ckc38,[62],0),
  (114,(Ckl2535,[],[]),2,Ckc38,[63],0),
  (116,(Ckl2535,[Cke894],[]),1,Ckc38,[64],0)]
def CNC294_1 : List ND := [(121,(Ckl2535,[Cke894],[]),0,Ckc38,[],0)]
def CNC294 : List (List ND) := [CNC294_0, CNC294_1]
theorem CKC294 : chkS prot SMsC SMC294 [] CNC294 = true := by decide +kernel
-- OneSided$Scene.begin [(68, 68), (32, 32)]
def Ckl2536 : AL := [some Cka166,some Cka121,some Cka68,some Cka125]
def Ckf347 : FA := [(32,4,Cka68),(68,0,Cka7),(68,1,Cka7),(68,2,Cka7),(68,3,Cka147)]
def Ckl2537 : AL := [some Cka166,some Cka121,some Cka6,some Cka125]
def Ckf348 : FA := [(32,4,Cka68),(68,0,Cka7),(68,1,Cka7),(68,2,Cka7),(68,3,Cka96)]
def Ckf349 : FA := [(32,4,Cka68),(68,0,Cka7),(68,1,Cka7),(68,2,Cka7),(68,3,Cka7)]
def Ckl2538 : AL := [some Cka166,some Cka121,some Cka51,some Cka125]
def Ckf350 : FA := [(32,4,Cka158),(68,0,Cka7),(68,1,Cka7),(68,2,Cka7),(68,3,Cka147)]
def Ckf351 : FA := [(32,4,Cka158),(68,0,Cka7),(68,1,Cka7),(68,2,Cka7),(68,3,Cka96)]
def Ckl2539 : AL := [some Cka166,some Cka121,some Cka67,some Cka125]
def Ckl2540 : AL := [some Cka166,some Cka121,some Cka7,some Cka125]
def Ckf352 : FA := [(32,4,Cka7),(68,0,Cka7),(68,1,Cka7),(68,2,Cka7),(68,3,Cka7)]
def CNC295_0 : List ND := [(0,(Ckl2476,[],[]),259,Ckc7,[1],0),
  (1,(Ckl2476,[Cke314],[]),258,Ckc7,[2],0),
  (2,(Ckl2476,[Cke7,Cke314],[]),257,Ckc7,[3],0),
  (5,(Ckl2476,[],Ckf337),256,Ckc7,[4],0),
  (6,(Ckl2476,[Cke314],Ckf337),255,Ckc7,[5],0),
  (7,(Ckl2476,[Cke7,Cke314],Ckf337),254,Ckc7,[6],0),
  (10,(Ckl2476,[],Ckf338),253,Ckc7,[7],0),
  (11,(Ckl2476,[Cke314],Ckf338),252,Ckc7,[8],0),
  (12,(Ckl2476,[Cke7,Cke314],Ckf338),251,Ckc7,[9],0),
  (15,(Ckl2476,[],Ckf339),250,Ckc7,[10],0),
  (16,(Ckl2476,[Cke314],Ckf339),249,Ckc7,[11],0),
  (17,(Ckl2476,[Cke7,Cke314],Ckf339),248,Ckc7,[12],0),
  (20,(Ckl2476,[],Ckf340),247,Ckc7,[13],0),
  (21,(Ckl2476,[Cke314],Ckf340),246,Ckc7,[14],0),
  (24,(Ckl2476,[Cke318],Ckf340),245,Ckc7,[15],0),
  (25,(Ckl2476,[Cke7,Cke318],Ckf340),244,Ckc7,[16],277),
  (28,(Ckl2476,[],Ckf340),243,Ckc7,[17],0),
  (29,(Ckl2476,[Cke7],Ckf340),242,Ckc7,[18],0),
  (30,(Ckl2477,[],Ckf340),241,Ckc7,[20],0),
  (30,(Ckl2536,[],Ckf347),230,Ckc21,[22],0),
  (31,(Ckl2477,[Cke23],Ckf340),240,Ckc7,[23],0),
  (31,(Ckl2537,[Cke180],Ckf348),262,Ckc7,[24],0),
  (31,(Ckl2536,[Cke273],Ckf347),229,Ckc21,[25],0),
  (32,(Ckl2477,[Cke200,Cke23],Ckf340),239,Ckc7,[26],0),
  (32,(Ckl2537,[Cke200,Cke180],Ckf348),261,Ckc7,[27],0),
  (32,(Ckl2536,[Cke200,Cke273],Ckf347),228,Ckc21,[28],0),
  (35,(Ckl2477,[Cke197,Cke23],Ckf340),238,Ckc7,[79,29],0),
  (35,(Ckl2537,[Cke285,Cke180],Ckf348),260,Ckc7,[80,30],0),
  (35,(Ckl2536,[Cke285,Cke273],Ckf347),227,Ckc21,[80,30],0),
  (38,(Ckl2477,[],Ckf349),236,Ckc7,[31],0),
  (38,(Ckl2538,[],Ckf350),226,Ckc21,[32],0),
  (39,(Ckl2477,[Cke200],Ckf349),235,Ckc7,[33],0),
  (39,(Ckl2538,[Cke200],Ckf350),225,Ckc21,[34],0),
  (42,(Ckl2477,[Cke198],Ckf349),234,Ckc7,[35],0),
  (42,(Ckl2538,[Cke198],Ckf350),224,Ckc21,[37],0),
  (43,(Ckl2477,[Cke23,Cke198],Ckf349),233,Ckc7,[38],0),
  (43,(Ckl2537,[Cke180,Cke198],Ckf351),263,Ckc7,[39],0),
  (43,(Ckl2538,[Cke275,Cke198],Ckf350),223,Ckc21,[39],0),
  (44,(Ckl2477,[Cke286],Ckf349),232,Ckc7,[40],0),
  (44,(Ckl2538,[Cke199],Ckf350),222,Ckc21,[40],0),
  (45,(Ckl2539,[],Ckf347),221,Ckc21,[41],0),
  (46,(Ckl2539,[Cke314],Ckf347),220,Ckc21,[42],0),
  (49,(Ckl2539,[Cke317],Ckf347),219,Ckc21,[44],0),
  (50,(Ckl2540,[Cke23,Cke317],Ckf349),266,Ckc7,[45],0),
  (50,(Ckl2539,[Cke278,Cke317],Ckf347),218,Ckc21,[46],0),
  (51,(Ckl2540,[Cke287,Cke23,Cke317],Ckf349),265,Ckc7,[47],0),
  (51,(Ckl2539,[Cke287,Cke278,Cke317],Ckf347),217,Ckc21,[48],0),
  (54,(Ckl2540,[Cke97,Cke23,Cke317],Ckf349),264,Ckc7,[49],0),
  (54,(Ckl2539,[Cke97,Cke278,Cke317],Ckf347),216,Ckc21,[49],0),
  (55,(Ckl2539,[],Ckf347),215,Ckc21,[50],0),
  (56,(Ckl2539,[Cke314],Ckf347),214,Ckc21,[51],0),
  (57,(Ckl2539,[Cke314,Cke314],Ckf347),213,Ckc21,[53],0),
  (60,(Ckl2540,[Cke882,Cke314],Ckf349),278,Ckc7,[54],0),
  (60,(Ckl2539,[Cke883,Cke314],Ckf347),212,Ckc21,[55],0),
  (61,(Ckl2540,[Cke287,Cke882,Cke314],Ckf349),277,Ckc7,[56],0),
  (61,(Ckl2539,[Cke287,Cke883,Cke314],Ckf347),211,Ckc21,[57],0),
  (64,(Ckl2540,[Cke97,Cke882,Cke314],Ckf349),276,Ckc7,[58],0),
  (64,(Ckl2539,[Cke97,Cke883,Cke314],Ckf347),210,Ckc21,[59],0),
  (65,(Ckl2540,[Cke287,Cke97,Cke882,Cke314],Ckf349),275,Ckc7,[60],0),
  (65,(Ckl2539,[Cke287,Cke97,Cke883,Cke314],Ckf347),209,Ckc21,[61],0),
  (68,(Ckl2540,[Cke97,Cke97,Cke882,Cke314],Ckf349),274,Ckc7,[70,62],0),
  (68,(Ckl2539,[Cke97,Cke97,Cke883,Cke314],Ckf347),208,Ckc21,[71,63],0),
  (71,(Ckl2540,[Cke882,Cke314],Ckf349),271,Ckc7,[64],0),
  (71,(Ckl2539,[Cke883,Cke314],Ckf347),205,Ckc21,[65],0)]
def CNC295_1 : List ND := [(72,(Ckl2540,[Cke6,Cke882,Cke314],Ckf349),270,Ckc7,[66],0),
  (72,(Ckl2539,[Cke6,Cke883,Cke314],Ckf347),204,Ckc21,[67],0),
  (73,(Ckl2540,[Cke23,Cke6,Cke882,Cke314],Ckf349),269,Ckc7,[68],0),
  (73,(Ckl2539,[Cke278,Cke6,Cke883,Cke314],Ckf347),203,Ckc21,[69],0),
  (74,(Ckl2540,[Cke6,Cke882,Cke314],Ckf349),268,Ckc7,[73],0),
  (74,(Ckl2539,[Cke282,Cke883,Cke314],Ckf347),202,Ckc21,[75],0),
  (77,(Ckl2540,[Cke882,Cke314],Ckf349),273,Ckc7,[72],0),
  (77,(Ckl2539,[Cke883,Cke314],Ckf347),207,Ckc21,[74],0),
  (78,(Ckl2540,[Cke7,Cke882,Cke314],Ckf349),272,Ckc7,[76],0),
  (78,(Ckl2540,[Cke6,Cke882,Cke314],Ckf349),267,Ckc7,[76],0),
  (78,(Ckl2539,[Cke7,Cke883,Cke314],Ckf347),206,Ckc21,[76],0),
  (78,(Ckl2539,[Cke282,Cke883,Cke314],Ckf347),201,Ckc21,[76],0),
  (79,(Ckl2539,[Cke244,Cke314],Ckf347),200,Ckc21,[77],0),
  (82,(Ckl2539,[],Ckf347),199,Ckc21,[78],0),
  (85,(Ckl2536,[],Ckf347),231,Ckc21,[19],0),
  (88,(Ckl2477,[],Ckf352),237,Ckc7,[],0),
  (88,(Ckl2536,[],Ckf347),0,Ckc7,[],0)]
def CNC295 : List (List ND) := [CNC295_0, CNC295_1]
theorem CKC295 : chkS prot SMsC SMC295 [] CNC295 = true := by decide +kernel
-- OneSided$Plans.doneInTime [(77, 77), (32, 32), (68, 68)]
def Ckl2541 : AL := [some Cka182,some Cka121,some Cka166,some Cka34,some Cka66,none]
def Ckl2542 : AL := [some Cka182,some Cka121,some Cka166,some Cka7,some Cka7,none]
def Ckl2543 : AL := [some Cka182,some Cka121,some Cka166,some Cka34,some Cka67,none]
def Ckl2544 : AL := [some Cka182,some Cka121,some Cka166,some Cka34,some Cka67,some Cka101]
def Ckl2545 : AL := [some Cka182,some Cka121,some Cka166,some Cka34,some Cka67,some Cka143]
def Ckl2546 : AL := [some Cka182,some Cka121,some Cka166,some Cka7,some Cka7,some Cka143]
def Ckl2547 : AL := [some Cka182,some Cka121,some Cka166,some Cka34,some Cka68,some Cka101]
def CNC296_0 : List ND := [(0,(Ckl2490,[],[]),166,Ckc9,[1],0),
  (1,(Ckl2490,[Cke7],[]),165,Ckc9,[2],0),
  (2,(Ckl2491,[],[]),164,Ckc9,[3],0),
  (3,(Ckl2491,[Cke7],[]),163,Ckc9,[4],0),
  (5,(Ckl2541,[],[]),161,Ckc73,[6],0),
  (7,(Ckl2542,[Cke166],[]),169,Ckc9,[7],0),
  (7,(Ckl2541,[Cke884],[]),160,Ckc73,[8],0),
  (8,(Ckl2542,[Cke200,Cke166],[]),168,Ckc9,[9],0),
  (8,(Ckl2541,[Cke200,Cke884],[]),159,Ckc73,[10],0),
  (11,(Ckl2542,[Cke197,Cke166],[]),167,Ckc9,[32,11],0),
  (11,(Ckl2541,[Cke197,Cke884],[]),158,Ckc73,[32,11],0),
  (14,(Ckl2543,[],Ckf59),157,Ckc73,[12],0),
  (15,(Ckl2543,[Cke381],Ckf59),156,Ckc73,[13],0),
  (16,(Ckl2543,[Cke200,Cke381],Ckf59),155,Ckc73,[14],0),
  (17,(Ckl2543,[Cke863,Cke200,Cke381],Ckf59),154,Ckc73,[16],0),
  (19,(Ckl2542,[Cke166,Cke863,Cke200,Cke381],Ckf59),170,Ckc9,[17],281),
  (19,(Ckl2543,[Cke885,Cke863,Cke200,Cke381],Ckf59),153,Ckc73,[17],281),
  (22,(Ckl2543,[Cke362],Ckf59),152,Ckc73,[18],0),
  (24,(Ckl2544,[],Ckf59),151,Ckc73,[19],0),
  (26,(Ckl2544,[Cke886],Ckf59),150,Ckc73,[20],0),
  (27,(Ckl2544,[Cke51,Cke886],Ckf59),149,Ckc73,[30,21],0),
  (30,(Ckl2545,[],Ckf59),148,Ckc73,[22],0),
  (32,(Ckl2545,[Cke887],Ckf59),147,Ckc73,[23],0),
  (33,(Ckl2545,[Cke200,Cke887],Ckf59),146,Ckc73,[24],0),
  (36,(Ckl2545,[Cke198,Cke887],Ckf59),145,Ckc73,[26],0),
  (38,(Ckl2546,[Cke166,Cke198,Cke887],Ckf59),171,Ckc9,[27],0),
  (38,(Ckl2545,[Cke885,Cke198,Cke887],Ckf59),144,Ckc73,[27],0),
  (39,(Ckl2545,[Cke199,Cke887],Ckf59),143,Ckc73,[28],0),
  (42,(Ckl2545,[Cke234,Cke887],Ckf59),142,Ckc73,[30,29],0),
  (45,(Ckl2545,[],Ckf59),141,Ckc73,[30],0),
  (48,(Ckl2544,[],Ckf59),140,Ckc73,[31],0),
  (51,(Ckl2547,[],Ckf59),162,Ckc73,[4],0),
  (54,(Ckl2541,[],[]),1,Ckc9,[33],0),
  (55,(Ckl2541,[Cke210],[]),0,Ckc9,[],0)]
def CNC296 : List (List ND) := [CNC296_0]
theorem CKC296 : chkS prot SMsC SMC296 [] CNC296 = true := by decide +kernel
-- OneSided$Plans.runYears [(77, 77), (32, 32), (68, 68), (-2147483648, 2147483647), (0, 9999), (1, 60), (1, 1)]
def Ckl2548 : AL := [some Cka182,some Cka121,some Cka166,some Cka34,some Cka358,some Cka359,some Cka6,none,none,none,none,none,none,none]
def Ckl2549 : AL := [some Cka182,some Cka121,some Cka166,some Cka34,some Cka358,some Cka359,some Cka6,some Cka360,none,none,none,none,none,none]
def Ckl2550 : AL := [some Cka182,some Cka121,some Cka166,some Cka34,some Cka358,some Cka359,some Cka6,some Cka360,none,some Cka34,none,none,none,none]
def Ckl2551 : AL := [some Cka182,some Cka121,some Cka166,some Cka34,some Cka358,some Cka359,some Cka6,some Cka360,none,some Cka34,some Cka7,none,none,none]
def Ckl2552 : AL := [some Cka182,some Cka121,some Cka166,some Cka34,some Cka358,some Cka359,some Cka6,some Cka360,none,some Cka34,some Cka7,some Cka97,none,none]
def Ckl2553 : AL := [some Cka182,some Cka121,some Cka166,some Cka34,some Cka358,some Cka359,some Cka6,some Cka8,none,some Cka34,some Cka34,some Cka361,some Cka362,none]
def Ckl2554 : AL := [some Cka182,some Cka121,some Cka166,some Cka34,some Cka358,some Cka359,some Cka6,some Cka360,none,some Cka34,some Cka7,some Cka97,some Cka7,none]
def Ckl2555 : AL := [some Cka182,some Cka121,some Cka166,some Cka34,some Cka358,some Cka359,some Cka6,some Cka8,none,some Cka34,some Cka34,some Cka361,some Cka363,none]
def Ckl2556 : AL := [some Cka182,some Cka121,some Cka166,some Cka34,some Cka358,some Cka359,some Cka6,some Cka8,none,some Cka34,some Cka34,some Cka361,some Cka363,some Cka34]
def Ckl2557 : AL := [some Cka182,some Cka121,some Cka166,some Cka34,some Cka358,some Cka359,some Cka6,some Cka8,none,some Cka34,some Cka7,some Cka97,some Cka7,some Cka34]
def Ckl2558 : AL := [some Cka182,some Cka121,some Cka166,some Cka34,some Cka358,some Cka359,some Cka6,some Cka8,none,some Cka34,some Cka34,some Cka361,some Cka359,some Cka34]
def Ckl2559 : AL := [some Cka182,some Cka121,some Cka166,some Cka34,some Cka358,some Cka359,some Cka6,some Cka8,none,some Cka34,some Cka34,some Cka361,some Cka359,none]
def CNC297_0 : List ND := [(0,(Ckl2548,[],[]),2760,Ckc38,[1],0),
  (2,(Ckl2548,[Cke888],[]),2759,Ckc38,[2],0),
  (3,(Ckl2548,[Cke889],[]),2758,Ckc38,[3],0),
  (5,(Ckl2549,[],[]),2757,Ckc38,[4],0),
  (6,(Ckl2549,[Cke210],[]),2756,Ckc38,[5],0),
  (8,(Ckl2550,[],[]),2755,Ckc38,[6],0),
  (9,(Ckl2550,[Cke7],[]),2754,Ckc38,[7],0),
  (11,(Ckl2551,[],[]),2753,Ckc38,[8],0),
  (13,(Ckl2551,[Cke147],[]),2752,Ckc38,[9],0),
  (15,(Ckl2552,[],[]),2751,Ckc38,[10],0),
  (16,(Ckl2552,[Cke7],[]),2750,Ckc38,[11],0),
  (18,(Ckl2553,[],[]),2748,Ckc74,[13],0),
  (20,(Ckl2554,[Cke890],[]),2762,Ckc38,[14],0),
  (20,(Ckl2553,[Cke891],[]),2747,Ckc74,[15],0),
  (22,(Ckl2554,[Cke892,Cke890],[]),2761,Ckc38,[16],0),
  (22,(Ckl2553,[Cke892,Cke891],[]),2746,Ckc74,[60,16],0),
  (25,(Ckl2555,[],[]),2745,Ckc74,[17],0),
  (27,(Ckl2555,[Cke893],[]),2744,Ckc74,[18],289),
  (30,(Ckl2555,[Cke10],[]),2743,Ckc74,[19],0),
  (32,(Ckl2555,[],[]),2742,Ckc74,[20],0),
  (34,(Ckl2555,[Cke403],[]),2741,Ckc74,[21],0),
  (35,(Ckl2555,[Cke6,Cke403],[]),2740,Ckc74,[22],0),
  (37,(Ckl2555,[Cke893,Cke6,Cke403],[]),2739,Ckc74,[23],0),
  (38,(Ckl2555,[Cke200,Cke893,Cke6,Cke403],[]),2738,Ckc74,[24],0),
  (41,(Ckl2555,[Cke194,Cke893,Cke6,Cke403],[]),2737,Ckc74,[25],290),
  (44,(Ckl2555,[Cke184,Cke6,Cke403],[]),2736,Ckc74,[26],0),
  (45,(Ckl2555,[Cke184,Cke403],[]),2735,Ckc74,[27],0),
  (46,(Ckl2555,[Cke184],[]),2734,Ckc74,[28],0),
  (48,(Ckl2555,[],[]),2733,Ckc74,[29],0),
  (50,(Ckl2555,[Cke893],[]),2732,Ckc74,[30],289),
  (53,(Ckl2555,[Cke10],[]),2731,Ckc74,[31],0),
  (55,(Ckl2555,[],[]),2730,Ckc74,[32],0),
  (57,(Ckl2555,[Cke893],[]),2729,Ckc74,[33],0),
  (59,(Ckl2555,[Cke48,Cke893],[]),2728,Ckc74,[34],291),
  (62,(Ckl2555,[Cke184],[]),2727,Ckc74,[37,35],0),
  (65,(Ckl2555,[],[]),2726,Ckc74,[36],0),
  (66,(Ckl2555,[Cke7],[]),2725,Ckc74,[37],0),
  (68,(Ckl2555,[],[]),2724,Ckc74,[38],0),
  (69,(Ckl2555,[Cke863],[]),2723,Ckc74,[39],0),
  (70,(Ckl2555,[Cke200,Cke863],[]),2722,Ckc74,[40],295),
  (73,(Ckl2555,[],[]),2721,Ckc74,[41],0),
  (74,(Ckl2555,[Cke863],[]),2720,Ckc74,[42],0),
  (76,(Ckl2555,[Cke403,Cke863],[]),2719,Ckc74,[43],0),
  (79,(Ckl2555,[],[]),2718,Ckc74,[44],0),
  (80,(Ckl2555,[Cke381],[]),2717,Ckc74,[45],0),
  (81,(Ckl2555,[Cke200,Cke381],[]),2716,Ckc74,[46],0),
  (82,(Ckl2555,[Cke863,Cke200,Cke381],[]),2715,Ckc74,[47],296),
  (85,(Ckl2555,[Cke184],[]),2714,Ckc74,[48],0),
  (87,(Ckl2556,[],[]),2713,Ckc74,[50],0),
  (89,(Ckl2557,[Cke397],[]),2764,Ckc38,[51],0),
  (89,(Ckl2556,[Cke822],[]),2712,Ckc74,[52],0),
  (91,(Ckl2557,[Cke548,Cke397],[]),2763,Ckc38,[53],0),
  (91,(Ckl2556,[Cke548,Cke822],[]),2711,Ckc74,[53],0),
  (92,(Ckl2556,[Cke184],[]),2710,Ckc74,[54],0),
  (94,(Ckl2556,[],[]),2709,Ckc74,[55],0),
  (96,(Ckl2556,[Cke894],[]),2708,Ckc74,[56],0),
  (98,(Ckl2556,[Cke548,Cke894],[]),2707,Ckc74,[57],0),
  (101,(Ckl2556,[Cke895],[]),2706,Ckc74,[58],0),
  (103,(Ckl2556,[],[]),2705,Ckc74,[59],0),
  (106,(Ckl2558,[],[]),2749,Ckc74,[11],0),
  (109,(Ckl2559,[],[]),4,Ckc38,[61],0),
  (111,(Ckl2559,[Cke896],[]),3,Ckc38,[62],0),
  (114,(Ckl2559,[],[]),2,Ckc38,[63],0),
  (116,(Ckl2559,[Cke894],[]),1,Ckc38,[64],0)]
def CNC297_1 : List ND := [(121,(Ckl2559,[Cke894],[]),0,Ckc38,[],0)]
def CNC297 : List (List ND) := [CNC297_0, CNC297_1]
theorem CKC297 : chkS prot SMsC SMC297 [] CNC297 = true := by decide +kernel
-- OneSided$Plans.runYears [(77, 77), (5, 5), (68, 68), (-2147483648, 2147483647), (0, 9999), (1, 60), (0, 0)]
def Ckl2560 : AL := [some Cka182,some Cka50,some Cka166,some Cka34,some Cka358,some Cka359,some Cka7,none,none,none,none,none,none,none]
def Ckl2561 : AL := [some Cka182,some Cka50,some Cka166,some Cka34,some Cka358,some Cka359,some Cka7,some Cka360,none,none,none,none,none,none]
def Ckl2562 : AL := [some Cka182,some Cka50,some Cka166,some Cka34,some Cka358,some Cka359,some Cka7,some Cka360,none,some Cka34,none,none,none,none]
def Ckl2563 : AL := [some Cka182,some Cka50,some Cka166,some Cka34,some Cka358,some Cka359,some Cka7,some Cka360,none,some Cka34,some Cka7,none,none,none]
def Ckl2564 : AL := [some Cka182,some Cka50,some Cka166,some Cka34,some Cka358,some Cka359,some Cka7,some Cka360,none,some Cka34,some Cka7,some Cka97,none,none]
def Ckl2565 : AL := [some Cka182,some Cka50,some Cka166,some Cka34,some Cka358,some Cka359,some Cka7,some Cka8,none,some Cka34,some Cka34,some Cka361,some Cka362,none]
def Ckl2566 : AL := [some Cka182,some Cka50,some Cka166,some Cka34,some Cka358,some Cka359,some Cka7,some Cka360,none,some Cka34,some Cka7,some Cka97,some Cka7,none]
def Ckl2567 : AL := [some Cka182,some Cka50,some Cka166,some Cka34,some Cka358,some Cka359,some Cka7,some Cka8,none,some Cka34,some Cka34,some Cka361,some Cka363,none]
def Ckl2568 : AL := [some Cka182,some Cka50,some Cka166,some Cka34,some Cka358,some Cka359,some Cka7,some Cka8,none,some Cka34,some Cka34,some Cka361,some Cka363,some Cka34]
def Ckl2569 : AL := [some Cka182,some Cka50,some Cka166,some Cka34,some Cka358,some Cka359,some Cka7,some Cka8,none,some Cka34,some Cka7,some Cka97,some Cka7,some Cka34]
def Ckl2570 : AL := [some Cka182,some Cka50,some Cka166,some Cka34,some Cka358,some Cka359,some Cka7,some Cka8,none,some Cka34,some Cka34,some Cka361,some Cka359,some Cka34]
def Ckl2571 : AL := [some Cka182,some Cka50,some Cka166,some Cka34,some Cka358,some Cka359,some Cka7,some Cka8,none,some Cka34,some Cka34,some Cka361,some Cka359,none]
def CNC298_0 : List ND := [(0,(Ckl2560,[],[]),2759,Ckc38,[1],0),
  (2,(Ckl2560,[Cke888],[]),2758,Ckc38,[2],0),
  (3,(Ckl2560,[Cke889],[]),2757,Ckc38,[3],0),
  (5,(Ckl2561,[],[]),2756,Ckc38,[4],0),
  (6,(Ckl2561,[Cke210],[]),2755,Ckc38,[5],0),
  (8,(Ckl2562,[],[]),2754,Ckc38,[6],0),
  (9,(Ckl2562,[Cke7],[]),2753,Ckc38,[7],0),
  (11,(Ckl2563,[],[]),2752,Ckc38,[8],0),
  (13,(Ckl2563,[Cke147],[]),2751,Ckc38,[9],0),
  (15,(Ckl2564,[],[]),2750,Ckc38,[10],0),
  (16,(Ckl2564,[Cke7],[]),2749,Ckc38,[11],0),
  (18,(Ckl2565,[],[]),2747,Ckc74,[13],0),
  (20,(Ckl2566,[Cke890],[]),2761,Ckc38,[14],0),
  (20,(Ckl2565,[Cke891],[]),2746,Ckc74,[15],0),
  (22,(Ckl2566,[Cke892,Cke890],[]),2760,Ckc38,[16],0),
  (22,(Ckl2565,[Cke892,Cke891],[]),2745,Ckc74,[60,16],0),
  (25,(Ckl2567,[],[]),2744,Ckc74,[17],0),
  (27,(Ckl2567,[Cke893],[]),2743,Ckc74,[18],289),
  (30,(Ckl2567,[Cke10],[]),2742,Ckc74,[19],0),
  (32,(Ckl2567,[],[]),2741,Ckc74,[20],0),
  (34,(Ckl2567,[Cke403],[]),2740,Ckc74,[21],0),
  (35,(Ckl2567,[Cke6,Cke403],[]),2739,Ckc74,[22],0),
  (37,(Ckl2567,[Cke893,Cke6,Cke403],[]),2738,Ckc74,[23],0),
  (38,(Ckl2567,[Cke86,Cke893,Cke6,Cke403],[]),2737,Ckc74,[24],0),
  (41,(Ckl2567,[Cke76,Cke893,Cke6,Cke403],[]),2736,Ckc74,[25],290),
  (44,(Ckl2567,[Cke184,Cke6,Cke403],[]),2735,Ckc74,[26],0),
  (45,(Ckl2567,[Cke184,Cke403],[]),2734,Ckc74,[27],0),
  (46,(Ckl2567,[Cke184],[]),2733,Ckc74,[28],0),
  (48,(Ckl2567,[],[]),2732,Ckc74,[29],0),
  (50,(Ckl2567,[Cke893],[]),2731,Ckc74,[30],289),
  (53,(Ckl2567,[Cke10],[]),2730,Ckc74,[31],0),
  (55,(Ckl2567,[],[]),2729,Ckc74,[32],0),
  (57,(Ckl2567,[Cke893],[]),2728,Ckc74,[33],0),
  (59,(Ckl2567,[Cke48,Cke893],[]),2727,Ckc74,[34],291),
  (62,(Ckl2567,[Cke184],[]),2726,Ckc74,[37,35],0),
  (65,(Ckl2567,[],[]),2725,Ckc74,[36],0),
  (66,(Ckl2567,[Cke7],[]),2724,Ckc74,[37],0),
  (68,(Ckl2567,[],[]),2723,Ckc74,[38],0),
  (69,(Ckl2567,[Cke863],[]),2722,Ckc74,[39],0),
  (70,(Ckl2567,[Cke86,Cke863],[]),2721,Ckc74,[40],292),
  (73,(Ckl2567,[],[]),2720,Ckc74,[41],0),
  (74,(Ckl2567,[Cke863],[]),2719,Ckc74,[42],0),
  (76,(Ckl2567,[Cke403,Cke863],[]),2718,Ckc74,[43],0),
  (79,(Ckl2567,[],[]),2717,Ckc74,[44],0),
  (80,(Ckl2567,[Cke381],[]),2716,Ckc74,[45],0),
  (81,(Ckl2567,[Cke86,Cke381],[]),2715,Ckc74,[46],0),
  (82,(Ckl2567,[Cke863,Cke86,Cke381],[]),2714,Ckc74,[47],293),
  (85,(Ckl2567,[Cke184],[]),2713,Ckc74,[48],0),
  (87,(Ckl2568,[],[]),2712,Ckc74,[50],0),
  (89,(Ckl2569,[Cke397],[]),2763,Ckc38,[51],0),
  (89,(Ckl2568,[Cke822],[]),2711,Ckc74,[52],0),
  (91,(Ckl2569,[Cke548,Cke397],[]),2762,Ckc38,[53],0),
  (91,(Ckl2568,[Cke548,Cke822],[]),2710,Ckc74,[53],0),
  (92,(Ckl2568,[Cke184],[]),2709,Ckc74,[54],0),
  (94,(Ckl2568,[],[]),2708,Ckc74,[55],0),
  (96,(Ckl2568,[Cke894],[]),2707,Ckc74,[56],0),
  (98,(Ckl2568,[Cke548,Cke894],[]),2706,Ckc74,[57],0),
  (101,(Ckl2568,[Cke895],[]),2705,Ckc74,[58],0),
  (103,(Ckl2568,[],[]),2704,Ckc74,[59],0),
  (106,(Ckl2570,[],[]),2748,Ckc74,[11],0),
  (109,(Ckl2571,[],[]),3,Ckc38,[61],0),
  (111,(Ckl2571,[Cke212],[]),2,Ckc38,[62],0),
  (119,(Ckl2571,[],[]),1,Ckc38,[63],0),
  (121,(Ckl2571,[Cke822],[]),0,Ckc38,[],0)]
def CNC298 : List (List ND) := [CNC298_0]
theorem CKC298 : chkS prot SMsC SMC298 [] CNC298 = true := by decide +kernel
-- OneSided$Plans.runYears [(77, 77), (32, 32), (68, 68), (-2147483648, 2147483647), (0, 9999), (1, 60), (0, 0)]
def Ckl2572 : AL := [some Cka182,some Cka121,some Cka166,some Cka34,some Cka358,some Cka359,some Cka7,none,none,none,none,none,none,none]
def Ckl2573 : AL := [some Cka182,some Cka121,some Cka166,some Cka34,some Cka358,some Cka359,some Cka7,some Cka360,none,none,none,none,none,none]
def Ckl2574 : AL := [some Cka182,some Cka121,some Cka166,some Cka34,some Cka358,some Cka359,some Cka7,some Cka360,none,some Cka34,none,none,none,none]
def Ckl2575 : AL := [some Cka182,some Cka121,some Cka166,some Cka34,some Cka358,some Cka359,some Cka7,some Cka360,none,some Cka34,some Cka7,none,none,none]
def Ckl2576 : AL := [some Cka182,some Cka121,some Cka166,some Cka34,some Cka358,some Cka359,some Cka7,some Cka360,none,some Cka34,some Cka7,some Cka97,none,none]
def Ckl2577 : AL := [some Cka182,some Cka121,some Cka166,some Cka34,some Cka358,some Cka359,some Cka7,some Cka8,none,some Cka34,some Cka34,some Cka361,some Cka362,none]
def Ckl2578 : AL := [some Cka182,some Cka121,some Cka166,some Cka34,some Cka358,some Cka359,some Cka7,some Cka360,none,some Cka34,some Cka7,some Cka97,some Cka7,none]
def Ckl2579 : AL := [some Cka182,some Cka121,some Cka166,some Cka34,some Cka358,some Cka359,some Cka7,some Cka8,none,some Cka34,some Cka34,some Cka361,some Cka363,none]
def Ckl2580 : AL := [some Cka182,some Cka121,some Cka166,some Cka34,some Cka358,some Cka359,some Cka7,some Cka8,none,some Cka34,some Cka34,some Cka361,some Cka363,some Cka34]
def Ckl2581 : AL := [some Cka182,some Cka121,some Cka166,some Cka34,some Cka358,some Cka359,some Cka7,some Cka8,none,some Cka34,some Cka7,some Cka97,some Cka7,some Cka34]
def Ckl2582 : AL := [some Cka182,some Cka121,some Cka166,some Cka34,some Cka358,some Cka359,some Cka7,some Cka8,none,some Cka34,some Cka34,some Cka361,some Cka359,some Cka34]
def Ckl2583 : AL := [some Cka182,some Cka121,some Cka166,some Cka34,some Cka358,some Cka359,some Cka7,some Cka8,none,some Cka34,some Cka34,some Cka361,some Cka359,none]
def CNC299_0 : List ND := [(0,(Ckl2572,[],[]),2759,Ckc38,[1],0),
  (2,(Ckl2572,[Cke888],[]),2758,Ckc38,[2],0),
  (3,(Ckl2572,[Cke889],[]),2757,Ckc38,[3],0),
  (5,(Ckl2573,[],[]),2756,Ckc38,[4],0),
  (6,(Ckl2573,[Cke210],[]),2755,Ckc38,[5],0),
  (8,(Ckl2574,[],[]),2754,Ckc38,[6],0),
  (9,(Ckl2574,[Cke7],[]),2753,Ckc38,[7],0),
  (11,(Ckl2575,[],[]),2752,Ckc38,[8],0),
  (13,(Ckl2575,[Cke147],[]),2751,Ckc38,[9],0),
  (15,(Ckl2576,[],[]),2750,Ckc38,[10],0),
  (16,(Ckl2576,[Cke7],[]),2749,Ckc38,[11],0),
  (18,(Ckl2577,[],[]),2747,Ckc74,[13],0),
  (20,(Ckl2578,[Cke890],[]),2761,Ckc38,[14],0),
  (20,(Ckl2577,[Cke891],[]),2746,Ckc74,[15],0),
  (22,(Ckl2578,[Cke892,Cke890],[]),2760,Ckc38,[16],0),
  (22,(Ckl2577,[Cke892,Cke891],[]),2745,Ckc74,[60,16],0),
  (25,(Ckl2579,[],[]),2744,Ckc74,[17],0),
  (27,(Ckl2579,[Cke893],[]),2743,Ckc74,[18],289),
  (30,(Ckl2579,[Cke10],[]),2742,Ckc74,[19],0),
  (32,(Ckl2579,[],[]),2741,Ckc74,[20],0),
  (34,(Ckl2579,[Cke403],[]),2740,Ckc74,[21],0),
  (35,(Ckl2579,[Cke6,Cke403],[]),2739,Ckc74,[22],0),
  (37,(Ckl2579,[Cke893,Cke6,Cke403],[]),2738,Ckc74,[23],0),
  (38,(Ckl2579,[Cke200,Cke893,Cke6,Cke403],[]),2737,Ckc74,[24],0),
  (41,(Ckl2579,[Cke194,Cke893,Cke6,Cke403],[]),2736,Ckc74,[25],290),
  (44,(Ckl2579,[Cke184,Cke6,Cke403],[]),2735,Ckc74,[26],0),
  (45,(Ckl2579,[Cke184,Cke403],[]),2734,Ckc74,[27],0),
  (46,(Ckl2579,[Cke184],[]),2733,Ckc74,[28],0),
  (48,(Ckl2579,[],[]),2732,Ckc74,[29],0),
  (50,(Ckl2579,[Cke893],[]),2731,Ckc74,[30],289),
  (53,(Ckl2579,[Cke10],[]),2730,Ckc74,[31],0),
  (55,(Ckl2579,[],[]),2729,Ckc74,[32],0),
  (57,(Ckl2579,[Cke893],[]),2728,Ckc74,[33],0),
  (59,(Ckl2579,[Cke48,Cke893],[]),2727,Ckc74,[34],291),
  (62,(Ckl2579,[Cke184],[]),2726,Ckc74,[37,35],0),
  (65,(Ckl2579,[],[]),2725,Ckc74,[36],0),
  (66,(Ckl2579,[Cke7],[]),2724,Ckc74,[37],0),
  (68,(Ckl2579,[],[]),2723,Ckc74,[38],0),
  (69,(Ckl2579,[Cke863],[]),2722,Ckc74,[39],0),
  (70,(Ckl2579,[Cke200,Cke863],[]),2721,Ckc74,[40],295),
  (73,(Ckl2579,[],[]),2720,Ckc74,[41],0),
  (74,(Ckl2579,[Cke863],[]),2719,Ckc74,[42],0),
  (76,(Ckl2579,[Cke403,Cke863],[]),2718,Ckc74,[43],0),
  (79,(Ckl2579,[],[]),2717,Ckc74,[44],0),
  (80,(Ckl2579,[Cke381],[]),2716,Ckc74,[45],0),
  (81,(Ckl2579,[Cke200,Cke381],[]),2715,Ckc74,[46],0),
  (82,(Ckl2579,[Cke863,Cke200,Cke381],[]),2714,Ckc74,[47],296),
  (85,(Ckl2579,[Cke184],[]),2713,Ckc74,[48],0),
  (87,(Ckl2580,[],[]),2712,Ckc74,[50],0),
  (89,(Ckl2581,[Cke397],[]),2763,Ckc38,[51],0),
  (89,(Ckl2580,[Cke822],[]),2711,Ckc74,[52],0),
  (91,(Ckl2581,[Cke548,Cke397],[]),2762,Ckc38,[53],0),
  (91,(Ckl2580,[Cke548,Cke822],[]),2710,Ckc74,[53],0),
  (92,(Ckl2580,[Cke184],[]),2709,Ckc74,[54],0),
  (94,(Ckl2580,[],[]),2708,Ckc74,[55],0),
  (96,(Ckl2580,[Cke894],[]),2707,Ckc74,[56],0),
  (98,(Ckl2580,[Cke548,Cke894],[]),2706,Ckc74,[57],0),
  (101,(Ckl2580,[Cke895],[]),2705,Ckc74,[58],0),
  (103,(Ckl2580,[],[]),2704,Ckc74,[59],0),
  (106,(Ckl2582,[],[]),2748,Ckc74,[11],0),
  (109,(Ckl2583,[],[]),3,Ckc38,[61],0),
  (111,(Ckl2583,[Cke212],[]),2,Ckc38,[62],0),
  (119,(Ckl2583,[],[]),1,Ckc38,[63],0),
  (121,(Ckl2583,[Cke822],[]),0,Ckc38,[],0)]
def CNC299 : List (List ND) := [CNC299_0]
theorem CKC299 : chkS prot SMsC SMC299 [] CNC299 = true := by decide +kernel
-- OneSided.years [(1, 1), (-2147483648, 2147483647), (-2147483648, 2147483647), (-2147483648, 2147483647)]
def Ckl2584 : AL := [some Cka161,some Cka142,some Cka34,some Cka34]
def Cka364 : AV := (0,9999,9999,0)
def Cke897 : SE := (Cka364,pv0)
def Ckl2585 : AL := [some Cka161,some Cka358,some Cka34,some Cka34]
def Ckl2586 : AL := [some Cka161,some Cka358,some Cka178,some Cka34]
def Ckl2587 : AL := [some Cka161,some Cka358,some Cka359,some Cka34]
def Ckl2588 : AL := [some Cka161,some Cka358,some Cka359,some Cka96]
def Cke898 : SE := (Cka358,(1,1,0,0,0))
def Cke899 : SE := (Cka359,(1,2,0,0,0))
def Ckl2589 : AL := [some Cka161,some Cka358,some Cka359,some Cka6]
def Ckl2590 : AL := [some Cka161,some Cka358,some Cka359,some Cka7]
def CNC300_0 : List ND := [(0,(Ckl1302,[],[]),64,Ckc7,[1],0),
  (1,(Ckl1302,[Cke156],[]),63,Ckc7,[11,2],0),
  (4,(Ckl2584,[],[]),62,Ckc7,[3],0),
  (5,(Ckl2584,[Cke299],[]),61,Ckc7,[4],0),
  (8,(Ckl2584,[Cke897,Cke299],[]),60,Ckc7,[11,5],0),
  (11,(Ckl2585,[],[]),59,Ckc7,[6],0),
  (12,(Ckl2585,[Cke209],[]),58,Ckc7,[7],0),
  (13,(Ckl2585,[Cke6,Cke209],[]),57,Ckc7,[11,8],0),
  (16,(Ckl2586,[],[]),56,Ckc7,[9],0),
  (17,(Ckl2586,[Cke510],[]),55,Ckc7,[10],0),
  (19,(Ckl2586,[Cke40,Cke510],[]),54,Ckc7,[13,11],0),
  (22,(Ckl1302,[],[]),1,Ckc7,[12],0),
  (23,(Ckl1302,[Cke51],[]),0,Ckc7,[],0),
  (24,(Ckl2587,[],[]),53,Ckc7,[14],0),
  (25,(Ckl2587,[Cke210],[]),52,Ckc7,[18,15],0),
  (28,(Ckl2587,[],[]),51,Ckc7,[16],0),
  (29,(Ckl2587,[Cke210],[]),50,Ckc7,[17],0),
  (30,(Ckl2587,[Cke6,Cke210],[]),49,Ckc7,[24,18],0),
  (33,(Ckl2588,[],[]),48,Ckc7,[19],0),
  (34,(Ckl2588,[Cke288],[]),47,Ckc7,[21,20],0),
  (37,(Ckl2588,[Cke290],[]),46,Ckc7,[22],0),
  (37,(Ckl2588,[Cke291],[]),45,Ckc7,[22],0),
  (40,(Ckl2588,[Cke300],[]),44,Ckc7,[23],0),
  (41,(Ckl2588,[Cke6,Cke300],[]),43,Ckc7,[26,24],0),
  (44,(Ckl2587,[],[]),3,Ckc7,[25],0),
  (45,(Ckl2587,[Cke51],[]),2,Ckc7,[],0),
  (46,(Ckl2588,[],[]),42,Ckc7,[27],0),
  (47,(Ckl2588,[Cke288],[]),41,Ckc7,[28],0),
  (50,(Ckl2588,[Cke360],[]),40,Ckc7,[29],0),
  (51,(Ckl2588,[Cke288,Cke360],[]),39,Ckc7,[31,30],0),
  (54,(Ckl2588,[Cke290,Cke360],[]),38,Ckc7,[32],0),
  (54,(Ckl2588,[Cke291,Cke360],[]),21,Ckc7,[33],0),
  (55,(Ckl2588,[Cke288,Cke290,Cke360],[]),37,Ckc7,[34],0),
  (55,(Ckl2588,[Cke288,Cke291,Cke360],[]),20,Ckc7,[35],0),
  (58,(Ckl2588,[Cke338,Cke290,Cke360],[]),36,Ckc7,[36],0),
  (58,(Ckl2588,[Cke338,Cke291,Cke360],[]),19,Ckc7,[37],0),
  (61,(Ckl2588,[Cke339,Cke290,Cke360],[]),35,Ckc7,[38],0),
  (61,(Ckl2588,[Cke339,Cke291,Cke360],[]),18,Ckc7,[39],0),
  (62,(Ckl2588,[Cke288,Cke339,Cke290,Cke360],[]),34,Ckc7,[40],0),
  (62,(Ckl2588,[Cke288,Cke339,Cke291,Cke360],[]),17,Ckc7,[41],0),
  (65,(Ckl2588,[Cke298,Cke339,Cke290,Cke360],[]),33,Ckc7,[42],0),
  (65,(Ckl2588,[Cke298,Cke339,Cke291,Cke360],[]),16,Ckc7,[43],0),
  (68,(Ckl2588,[Cke284,Cke339,Cke290,Cke360],[]),32,Ckc7,[44],0),
  (68,(Ckl2588,[Cke284,Cke339,Cke291,Cke360],[]),15,Ckc7,[45],0),
  (71,(Ckl2588,[Cke303,Cke339,Cke290,Cke360],[]),31,Ckc7,[46],0),
  (71,(Ckl2588,[Cke303,Cke339,Cke291,Cke360],[]),14,Ckc7,[47],0),
  (72,(Ckl2588,[Cke898,Cke303,Cke339,Cke290,Cke360],[]),30,Ckc7,[48],0),
  (72,(Ckl2588,[Cke898,Cke303,Cke339,Cke291,Cke360],[]),13,Ckc7,[49],0),
  (73,(Ckl2588,[Cke899,Cke898,Cke303,Cke339,Cke290,Cke360],[]),29,Ckc7,[50],0),
  (73,(Ckl2588,[Cke899,Cke898,Cke303,Cke339,Cke291,Cke360],[]),12,Ckc7,[51],0),
  (74,(Ckl2588,[Cke142,Cke899,Cke898,Cke303,Cke339,Cke290,Cke360],[]),28,Ckc7,[52],0),
  (74,(Ckl2588,[Cke142,Cke899,Cke898,Cke303,Cke339,Cke291,Cke360],[]),11,Ckc7,[53],0),
  (75,(Ckl2588,[Cke6,Cke142,Cke899,Cke898,Cke303,Cke339,Cke290,Cke360],[]),27,Ckc7,[58,54],0),
  (75,(Ckl2588,[Cke6,Cke142,Cke899,Cke898,Cke303,Cke339,Cke291,Cke360],[]),10,Ckc7,[59,55],0),
  (78,(Ckl2589,[Cke899,Cke898,Cke303,Cke339,Cke290,Cke360],[]),26,Ckc7,[56],0),
  (78,(Ckl2589,[Cke899,Cke898,Cke303,Cke339,Cke291,Cke360],[]),9,Ckc7,[57],0),
  (79,(Ckl2589,[Cke6,Cke899,Cke898,Cke303,Cke339,Cke290,Cke360],[]),25,Ckc7,[62],0),
  (79,(Ckl2589,[Cke6,Cke899,Cke898,Cke303,Cke339,Cke291,Cke360],[]),8,Ckc7,[63],0),
  (82,(Ckl2590,[Cke899,Cke898,Cke303,Cke339,Cke290,Cke360],[]),23,Ckc7,[60],0),
  (82,(Ckl2590,[Cke899,Cke898,Cke303,Cke339,Cke291,Cke360],[]),6,Ckc7,[61],0),
  (83,(Ckl2590,[Cke7,Cke899,Cke898,Cke303,Cke339,Cke290,Cke360],[]),22,Ckc7,[64],299),
  (83,(Ckl2590,[Cke7,Cke899,Cke898,Cke303,Cke339,Cke291,Cke360],[]),5,Ckc7,[64],298),
  (83,(Ckl2589,[Cke6,Cke899,Cke898,Cke303,Cke339,Cke290,Cke360],[]),24,Ckc7,[64],297),
  (83,(Ckl2589,[Cke6,Cke899,Cke898,Cke303,Cke339,Cke291,Cke360],[]),7,Ckc7,[64],294)]
def CNC300_1 : List ND := [(86,(Ckl2588,[Cke184],[]),4,Ckc7,[],0)]
def CNC300 : List (List ND) := [CNC300_0, CNC300_1]
theorem CKC300 : chkS prot SMsC SMC300 [] CNC300 = true := by decide +kernel
-- OneSided.count [(1, 1), (-2147483648, 2147483647)]
def Ckl2591 : AL := [some Cka161,some Cka31]
def Ckl2592 : AL := [some Cka161,some Cka95]
def Ckl2593 : AL := [some Cka161,some Cka97]
def Cke900 : SE := (Cka143,(2,59,1,0,0))
def Ckl2594 : AL := [some Cka161,some Cka162]
def Ckl2595 : AL := [some Cka161,some Cka17]
def Ckl2596 : AL := [some Cka161,some Cka93]
def CNC301_0 : List ND := [(0,(Ckl725,[],[]),50,Ckc0,[1],0),
  (1,(Ckl725,[Cke156],[]),49,Ckc0,[49,2,7,12,17,22,28,34,38,42,45],0),
  (56,(Ckl1817,[],[]),28,Ckc0,[3],0),
  (57,(Ckl1817,[Cke288],[]),27,Ckc0,[5,4],0),
  (60,(Ckl1817,[Cke290],[]),25,Ckc0,[6],0),
  (60,(Ckl1817,[Cke291],[]),26,Ckc0,[6],0),
  (63,(Ckl1817,[Cke68],[]),24,Ckc0,[],0),
  (64,(Ckl1818,[],[]),42,Ckc0,[8],0),
  (65,(Ckl1818,[Cke288],[]),41,Ckc0,[10,9],0),
  (68,(Ckl1818,[Cke290],[]),39,Ckc0,[11],0),
  (68,(Ckl1818,[Cke291],[]),40,Ckc0,[11],0),
  (71,(Ckl1818,[Cke300],[]),38,Ckc0,[],0),
  (72,(Ckl1819,[],[]),16,Ckc0,[13],0),
  (73,(Ckl1819,[Cke288],[]),15,Ckc0,[15,14],0),
  (76,(Ckl1819,[Cke290],[]),13,Ckc0,[16],0),
  (76,(Ckl1819,[Cke291],[]),14,Ckc0,[16],0),
  (79,(Ckl1819,[Cke304],[]),12,Ckc0,[],0),
  (80,(Ckl1816,[],[]),33,Ckc0,[18],0),
  (81,(Ckl1816,[Cke288],[]),32,Ckc0,[19],0),
  (84,(Ckl1816,[Cke298],[]),31,Ckc0,[20],0),
  (87,(Ckl1816,[Cke284],[]),30,Ckc0,[21],0),
  (90,(Ckl1816,[Cke316],[]),29,Ckc0,[],0),
  (91,(Ckl2591,[],[]),48,Ckc0,[23],0),
  (92,(Ckl2591,[Cke288],[]),47,Ckc0,[24],0),
  (95,(Ckl2591,[Cke298],[]),46,Ckc0,[25],0),
  (98,(Ckl2591,[Cke284],[]),45,Ckc0,[26],0),
  (101,(Ckl2591,[Cke303],[]),44,Ckc0,[27],207),
  (104,(Ckl2591,[Cke539],[]),43,Ckc0,[],0),
  (105,(Ckl2592,[],[]),5,Ckc0,[29],0),
  (106,(Ckl2592,[Cke288],[]),4,Ckc0,[30],0),
  (109,(Ckl2592,[Cke298],[]),3,Ckc0,[31],0),
  (112,(Ckl2592,[Cke284],[]),2,Ckc0,[32],0),
  (115,(Ckl2592,[Cke306],[]),1,Ckc0,[33],207),
  (118,(Ckl2592,[Cke539],[]),0,Ckc0,[],0),
  (119,(Ckl2593,[],[]),9,Ckc0,[35],0),
  (120,(Ckl2593,[Cke288],[]),8,Ckc0,[36],0),
  (123,(Ckl2593,[Cke298],[]),7,Ckc0,[37],0),
  (126,(Ckl2593,[Cke900],[]),6,Ckc0,[],0),
  (127,(Ckl2594,[],[]),37,Ckc0,[39],0),
  (128,(Ckl2594,[Cke288],[]),36,Ckc0,[40],0),
  (131,(Ckl2594,[Cke298],[]),35,Ckc0,[41],0),
  (134,(Ckl2594,[Cke556],[]),34,Ckc0,[],0),
  (135,(Ckl2595,[],[]),19,Ckc0,[43],0),
  (136,(Ckl2595,[Cke288],[]),18,Ckc0,[44],0),
  (139,(Ckl2595,[Cke333],[]),17,Ckc0,[],0),
  (140,(Ckl2596,[],[]),23,Ckc0,[46],0),
  (141,(Ckl2596,[Cke288],[]),22,Ckc0,[47],0),
  (144,(Ckl2596,[Cke289],[]),21,Ckc0,[48],0),
  (147,(Ckl2596,[Cke17],[]),20,Ckc0,[],0),
  (148,(Ckl725,[],[]),11,Ckc0,[50],0),
  (149,(Ckl725,[Cke51],[]),10,Ckc0,[],0)]
def CNC301 : List (List ND) := [CNC301_0]
theorem CKC301 : chkS prot SMsC SMC301 [] CNC301 = true := by decide +kernel
-- OneSided$Quarter.aheadIn [(5, 5), (0, 3), (0, 48), (-2147483648, 2147483647)]
def Cka365 : AV := (0,0,48,1)
def Ckl2597 : AL := [some Cka50,some Cka80,some Cka365,some Cka34]
def Cke901 : SE := (Cka365,(1,2,0,0,0))
def Cka366 : AV := (0,24,48,1)
def Ckl2598 : AL := [some Cka50,some Cka80,some Cka366,some Cka34]
def CNC302_0 : List ND := [(0,(Ckl2597,[],[]),18,Ckc7,[1],0),
  (1,(Ckl2597,[Cke901],[]),17,Ckc7,[2],0),
  (3,(Ckl2597,[Cke144,Cke901],[]),16,Ckc7,[16,3],0),
  (6,(Ckl777,[],[]),15,Ckc7,[4],0),
  (7,(Ckl777,[Cke53],[]),14,Ckc7,[5],0),
  (10,(Ckl777,[Cke254],[]),13,Ckc7,[6],0),
  (11,(Ckl777,[Cke248,Cke254],[]),12,Ckc7,[7],0),
  (13,(Ckl777,[Cke144,Cke248,Cke254],[]),11,Ckc7,[8],0),
  (14,(Ckl777,[Cke255,Cke254],[]),10,Ckc7,[9],0),
  (15,(Ckl777,[Cke249,Cke255,Cke254],[]),9,Ckc7,[10],0),
  (16,(Ckl777,[Cke256,Cke254],[]),8,Ckc7,[11],0),
  (17,(Ckl777,[Cke184],[]),7,Ckc7,[12],0),
  (18,(Ckl777,[Cke210,Cke184],[]),6,Ckc7,[13],0),
  (19,(Ckl777,[Cke51,Cke210,Cke184],[]),5,Ckc7,[14],0),
  (20,(Ckl777,[Cke184,Cke184],[]),4,Ckc7,[15],0),
  (21,(Ckl777,[Cke184],[]),3,Ckc7,[18],0),
  (24,(Ckl2598,[],[]),1,Ckc7,[17],0),
  (25,(Ckl2598,[Cke7],[]),0,Ckc7,[],0),
  (25,(Ckl777,[Cke184],[]),2,Ckc7,[],0)]
def CNC302 : List (List ND) := [CNC302_0]
theorem CKC302 : chkS prot SMsC SMC302 [] CNC302 = true := by decide +kernel
-- OneSided$Quarter.backIn [(5, 5), (0, 3), (0, 48), (-2147483648, 2147483647)]
def CNC303_0 : List ND := [(0,(Ckl2597,[],[]),18,Ckc7,[1],0),
  (1,(Ckl2597,[Cke901],[]),17,Ckc7,[2],0),
  (3,(Ckl2597,[Cke144,Cke901],[]),16,Ckc7,[16,3],0),
  (6,(Ckl777,[],[]),15,Ckc7,[4],0),
  (7,(Ckl777,[Cke53],[]),14,Ckc7,[5],0),
  (10,(Ckl777,[Cke257],[]),13,Ckc7,[6],0),
  (11,(Ckl777,[Cke248,Cke257],[]),12,Ckc7,[7],0),
  (13,(Ckl777,[Cke144,Cke248,Cke257],[]),11,Ckc7,[8],0),
  (14,(Ckl777,[Cke255,Cke257],[]),10,Ckc7,[9],0),
  (15,(Ckl777,[Cke249,Cke255,Cke257],[]),9,Ckc7,[10],0),
  (16,(Ckl777,[Cke256,Cke257],[]),8,Ckc7,[11],0),
  (17,(Ckl777,[Cke184],[]),7,Ckc7,[12],0),
  (18,(Ckl777,[Cke210,Cke184],[]),6,Ckc7,[13],0),
  (19,(Ckl777,[Cke51,Cke210,Cke184],[]),5,Ckc7,[14],0),
  (20,(Ckl777,[Cke184,Cke184],[]),4,Ckc7,[15],0),
  (21,(Ckl777,[Cke184],[]),3,Ckc7,[18],0),
  (24,(Ckl2598,[],[]),1,Ckc7,[17],0),
  (25,(Ckl2598,[Cke7],[]),0,Ckc7,[],0),
  (25,(Ckl777,[Cke184],[]),2,Ckc7,[],0)]
def CNC303 : List (List ND) := [CNC303_0]
theorem CKC303 : chkS prot SMsC SMC303 [] CNC303 = true := by decide +kernel
-- OneSided$Quarter.into [(5, 5), (0, 13), (0, 3), (0, 9), (0, 48), (-2147483648, 2147483647)]
def Ckl2599 : AL := [some Cka50,some Cka62,some Cka80,some Cka77,some Cka365,some Cka34,none]
def Ckl2600 : AL := [some Cka50,some Cka62,some Cka80,some Cka77,some Cka365,some Cka34,some Cka65]
def Cke902 : SE := (Cka365,(1,4,0,0,0))
def CNC304_0 : List ND := [(0,(Ckl2599,[],[]),40,Ckc16,[1],0),
  (1,(Ckl2599,[Cke53],[]),39,Ckc16,[2],0),
  (4,(Ckl2599,[Cke77],[]),38,Ckc16,[3],0),
  (5,(Ckl2599,[Cke237,Cke77],[]),37,Ckc16,[4],0),
  (6,(Ckl2599,[Cke79],[]),36,Ckc16,[5],0),
  (8,(Ckl2600,[],[]),35,Ckc16,[6],0),
  (10,(Ckl2600,[Cke238],[]),34,Ckc16,[7],0),
  (13,(Ckl2600,[Cke97],[]),33,Ckc16,[8],0),
  (14,(Ckl2600,[Cke98,Cke97],[]),32,Ckc16,[22,9],0),
  (17,(Ckl2600,[],[]),31,Ckc16,[10],0),
  (18,(Ckl2600,[Cke53],[]),30,Ckc16,[11],0),
  (19,(Ckl2600,[Cke108,Cke53],[]),29,Ckc16,[12],0),
  (21,(Ckl2600,[Cke902,Cke108,Cke53],[]),28,Ckc16,[13],0),
  (23,(Ckl2600,[Cke311,Cke902,Cke108,Cke53],[]),27,Ckc16,[14],302),
  (26,(Ckl2600,[Cke184],[]),26,Ckc16,[15],0),
  (27,(Ckl2600,[Cke237,Cke184],[]),25,Ckc16,[16],0),
  (28,(Ckl2600,[Cke184],[]),24,Ckc16,[17],0),
  (29,(Ckl2600,[Cke6,Cke184],[]),23,Ckc16,[18],0),
  (30,(Ckl2600,[Cke242],[]),22,Ckc16,[22,19],0),
  (33,(Ckl2600,[],[]),2,Ckc16,[20],0),
  (35,(Ckl2600,[Cke238],[]),1,Ckc16,[21],0),
  (38,(Ckl2600,[Cke97],[]),0,Ckc16,[],0),
  (39,(Ckl2600,[],[]),21,Ckc16,[23],0),
  (41,(Ckl2600,[Cke238],[]),20,Ckc16,[24],0),
  (44,(Ckl2600,[Cke97],[]),19,Ckc16,[25],0),
  (45,(Ckl2600,[Cke98,Cke97],[]),18,Ckc16,[39,26],0),
  (48,(Ckl2600,[],[]),17,Ckc16,[27],0),
  (49,(Ckl2600,[Cke53],[]),16,Ckc16,[28],0),
  (50,(Ckl2600,[Cke108,Cke53],[]),15,Ckc16,[29],0),
  (52,(Ckl2600,[Cke902,Cke108,Cke53],[]),14,Ckc16,[30],0),
  (54,(Ckl2600,[Cke311,Cke902,Cke108,Cke53],[]),13,Ckc16,[31],303),
  (57,(Ckl2600,[Cke184],[]),12,Ckc16,[32],0),
  (58,(Ckl2600,[Cke237,Cke184],[]),11,Ckc16,[33],0),
  (59,(Ckl2600,[Cke184],[]),10,Ckc16,[34],0),
  (60,(Ckl2600,[Cke6,Cke184],[]),9,Ckc16,[35],0),
  (61,(Ckl2600,[Cke242],[]),8,Ckc16,[39,36],0),
  (64,(Ckl2600,[],[]),5,Ckc16,[37],0),
  (66,(Ckl2600,[Cke238],[]),4,Ckc16,[38],0),
  (69,(Ckl2600,[Cke97],[]),3,Ckc16,[],0),
  (70,(Ckl2600,[],[]),7,Ckc16,[40],0),
  (71,(Ckl2600,[Cke51],[]),6,Ckc16,[],0)]
def CNC304 : List (List ND) := [CNC304_0]
theorem CKC304 : chkS prot SMsC SMC304 [] CNC304 = true := by decide +kernel
