/-! LM, by program: certificates C 9 -/
-- OneSided.errand [(1, 1), (-2147483648, 2147483647), (-2147483648, 2147483647)]
def Cka237 : AV := (0,-2,-2,0)
def Cke507 : SE := (Cka237,pv0)
def Cka238 : AV := (0,-1,2147483647,1)
def Ckl1257 : AL := [some Cka161,some Cka67,some Cka238,none]
def Ckl1258 : AL := [some Cka161,some Cka67,some Cka238,some Cka101]
def Cke508 : SE := (Cka101,(1,3,0,0,0))
def Ckl1259 : AL := [some Cka161,some Cka67,some Cka238,some Cka49]
def Ckl1260 : AL := [some Cka161,some Cka67,some Cka238,some Cka143]
def Cke509 : SE := (Cka238,(1,2,0,0,0))
def Ckl1261 : AL := [some Cka161,some Cka67,some Cka49,some Cka143]
def Ckl1262 : AL := [some Cka161,some Cka67,some Cka142,some Cka143]
def Ckl1263 : AL := [some Cka161,some Cka67,some Cka7,some Cka143]
def Ckl1264 : AL := [some Cka161,some Cka67,some Cka7,some Cka85]
def Ckl1265 : AL := [some Cka161,some Cka67,some Cka178,some Cka143]
def Cke510 : SE := (Cka178,(1,2,0,0,0))
def Cke511 : SE := (Cka143,(2,77,0,0,0))
def Ckl1266 : AL := [some Cka161,some Cka67,some Cka85,some Cka143]
def Ckf137 : FA := [(77,0,Cka85)]
def Cke512 : SE := (Cka85,(1,2,0,0,0))
def Cke513 : SE := (Cka62,pv0)
def Ckf138 : FA := [(77,0,Cka143)]
def Cka239 : AV := (0,-2,13,1)
def Cke514 : SE := (Cka239,pv0)
def CNC188_0 : List ND := [(0,(Ckl728,[],[]),82,Ckc7,[1],0),
  (1,(Ckl728,[Cke288],[]),81,Ckc7,[2],0),
  (2,(Ckl728,[Cke156,Cke288],[]),80,Ckc7,[4,3],138),
  (5,(Ckl728,[Cke7],[]),79,Ckc7,[8],0),
  (5,(Ckl753,[Cke6],[]),78,Ckc7,[5],0),
  (8,(Ckl753,[],[]),77,Ckc7,[6],0),
  (9,(Ckl753,[Cke209],[]),76,Ckc7,[7],0),
  (10,(Ckl753,[Cke51,Cke209],[]),75,Ckc7,[10,8],0),
  (13,(Ckl728,[],[]),74,Ckc7,[9],0),
  (15,(Ckl728,[Cke507],[]),73,Ckc7,[],0),
  (16,(Ckl1257,[],[]),72,Ckc7,[11],0),
  (17,(Ckl1257,[Cke288],[]),71,Ckc7,[12],0),
  (20,(Ckl1257,[Cke360],[]),70,Ckc7,[13],0),
  (21,(Ckl1257,[Cke288,Cke360],[]),69,Ckc7,[15,14],0),
  (24,(Ckl1257,[Cke290,Cke360],[]),63,Ckc7,[16],0),
  (24,(Ckl1257,[Cke291,Cke360],[]),68,Ckc7,[17],0),
  (25,(Ckl1257,[Cke288,Cke290,Cke360],[]),62,Ckc7,[18],0),
  (25,(Ckl1257,[Cke288,Cke291,Cke360],[]),67,Ckc7,[19],0),
  (28,(Ckl1257,[Cke298,Cke290,Cke360],[]),61,Ckc7,[20],0),
  (28,(Ckl1257,[Cke298,Cke291,Cke360],[]),66,Ckc7,[21],0),
  (31,(Ckl1257,[Cke284,Cke290,Cke360],[]),60,Ckc7,[22],0),
  (31,(Ckl1257,[Cke284,Cke291,Cke360],[]),65,Ckc7,[23],0),
  (32,(Ckl1257,[Cke305,Cke284,Cke290,Cke360],[]),59,Ckc7,[24],171),
  (32,(Ckl1257,[Cke305,Cke284,Cke291,Cke360],[]),64,Ckc7,[24],170),
  (35,(Ckl1257,[Cke362],[]),58,Ckc7,[25],0),
  (36,(Ckl1258,[],[]),57,Ckc7,[26],0),
  (37,(Ckl1258,[Cke508],[]),56,Ckc7,[27],0),
  (38,(Ckl1258,[Cke51,Cke508],[]),55,Ckc7,[30,28],0),
  (41,(Ckl1259,[],[]),1,Ckc7,[29],0),
  (43,(Ckl1259,[Cke507],[]),0,Ckc7,[],0),
  (44,(Ckl1260,[],[]),54,Ckc7,[31],0),
  (45,(Ckl1260,[Cke509],[]),53,Ckc7,[32],0),
  (46,(Ckl1260,[Cke51,Cke509],[]),52,Ckc7,[35,33],0),
  (49,(Ckl1261,[],[]),3,Ckc7,[34],0),
  (50,(Ckl1261,[Cke352],[]),2,Ckc7,[],0),
  (51,(Ckl1262,[],[]),51,Ckc7,[36],0),
  (52,(Ckl1262,[Cke308],[]),50,Ckc7,[54,37],0),
  (55,(Ckl1263,[],[]),49,Ckc7,[38],0),
  (56,(Ckl1263,[Cke352],[]),48,Ckc7,[39],0),
  (57,(Ckl1263,[Cke288,Cke352],[]),47,Ckc7,[41,40],0),
  (60,(Ckl1263,[Cke290,Cke352],[]),46,Ckc7,[42],0),
  (60,(Ckl1263,[Cke291,Cke352],[]),42,Ckc7,[43],0),
  (63,(Ckl1263,[Cke198,Cke352],[]),45,Ckc7,[44],0),
  (63,(Ckl1263,[Cke83,Cke352],[]),41,Ckc7,[45],0),
  (64,(Ckl1263,[Cke305,Cke198,Cke352],[]),44,Ckc7,[47],0),
  (64,(Ckl1263,[Cke305,Cke83,Cke352],[]),40,Ckc7,[46],0),
  (65,(Ckl1263,[Cke85,Cke352],[]),39,Ckc7,[48],0),
  (65,(Ckl1263,[Cke199,Cke352],[]),43,Ckc7,[48],0),
  (68,(Ckl1263,[Cke234,Cke352],[]),38,Ckc7,[51,49],0),
  (71,(Ckl1263,[],[]),35,Ckc7,[50],0),
  (72,(Ckl1263,[Cke6],[]),34,Ckc7,[53],0),
  (75,(Ckl1264,[],[]),37,Ckc7,[52],0),
  (76,(Ckl1264,[Cke7],[]),36,Ckc7,[],0),
  (76,(Ckl1263,[Cke6],[]),33,Ckc7,[],0),
  (77,(Ckl1265,[],[]),32,Ckc7,[55],0),
  (78,(Ckl1265,[Cke288],[]),31,Ckc7,[56],0),
  (81,(Ckl1265,[Cke360],[]),30,Ckc7,[57],0),
  (82,(Ckl1265,[Cke288,Cke360],[]),29,Ckc7,[59,58],0),
  (85,(Ckl1265,[Cke290,Cke360],[]),28,Ckc7,[60],0),
  (85,(Ckl1265,[Cke291,Cke360],[]),23,Ckc7,[61],0),
  (86,(Ckl1265,[Cke288,Cke290,Cke360],[]),27,Ckc7,[62],0),
  (86,(Ckl1265,[Cke288,Cke291,Cke360],[]),22,Ckc7,[63],0),
  (89,(Ckl1265,[Cke298,Cke290,Cke360],[]),26,Ckc7,[64],0),
  (89,(Ckl1265,[Cke298,Cke291,Cke360],[]),21,Ckc7,[65],0)]
def CNC188_1 : List ND := [(92,(Ckl1265,[Cke284,Cke290,Cke360],[]),25,Ckc7,[66],0),
  (92,(Ckl1265,[Cke284,Cke291,Cke360],[]),20,Ckc7,[67],0),
  (93,(Ckl1265,[Cke305,Cke284,Cke290,Cke360],[]),24,Ckc7,[68],187),
  (93,(Ckl1265,[Cke305,Cke284,Cke291,Cke360],[]),19,Ckc7,[68],179),
  (96,(Ckl1265,[],[]),18,Ckc7,[69],0),
  (97,(Ckl1265,[Cke510],[]),17,Ckc7,[70],0),
  (98,(Ckl1265,[Cke288,Cke510],[]),16,Ckc7,[71],0),
  (101,(Ckl1265,[Cke360,Cke510],[]),15,Ckc7,[72],0),
  (104,(Ckl1265,[Cke511,Cke510],[]),14,Ckc7,[81,73],0),
  (107,(Ckl1266,[],Ckf137),12,Ckc7,[74],0),
  (108,(Ckl1266,[Cke288],Ckf137),11,Ckc7,[75],0),
  (111,(Ckl1266,[Cke360],Ckf137),10,Ckc7,[76],0),
  (114,(Ckl1266,[Cke470],Ckf137),9,Ckc7,[77],0),
  (115,(Ckl1266,[Cke512,Cke470],Ckf137),8,Ckc7,[78],0),
  (116,(Ckl1266,[Cke6,Cke512,Cke470],Ckf137),7,Ckc7,[79],0),
  (117,(Ckl1266,[Cke113,Cke470],Ckf137),6,Ckc7,[80],0),
  (118,(Ckl1266,[Cke513],Ckf137),5,Ckc7,[82],0),
  (121,(Ckl1265,[],Ckf138),13,Ckc7,[82],0),
  (123,(Ckl1265,[Cke514],[]),4,Ckc7,[],0)]
def CNC188 : List (List ND) := [CNC188_0, CNC188_1]
theorem CKC188 : chkS prot SMsC SMC188 [] CNC188 = true := by decide +kernel
-- OneSided$Plans.roomsByTheEnd [(77, 77), (5, 5), (60, 60), (0, 5)]
def Ckl1267 : AL := [some Cka182,some Cka50,some Cka157,some Cka67,none,none,none]
def Ckl1268 : AL := [some Cka182,some Cka50,some Cka157,some Cka67,some Cka80,none,none]
def Ckl1269 : AL := [some Cka182,some Cka50,some Cka157,some Cka67,some Cka80,some Cka181,none]
def Ckl1270 : AL := [some Cka182,some Cka50,some Cka157,some Cka67,some Cka80,some Cka147,some Cka163]
def Ckc34 : List Int := [0,0,0,0,0,0,-14]
def Cke515 : SE := (Cka163,(1,6,0,0,0))
def Ckl1271 : AL := [some Cka182,some Cka50,some Cka157,some Cka67,some Cka80,some Cka147,some Cka84]
def Cke516 : SE := (Cka147,(1,5,0,0,0))
def Cke517 : SE := (Cka80,(1,4,0,0,0))
def Ckl1272 : AL := [some Cka182,some Cka50,some Cka157,some Cka67,some Cka80,some Cka147,some Cka85]
def Ckl1273 : AL := [some Cka182,some Cka50,some Cka157,some Cka67,some Cka80,some Cka147,some Cka164]
def CNC189_0 : List ND := [(0,(Ckl1267,[],[]),382,Ckc16,[1],0),
  (1,(Ckl1267,[Cke86],[]),381,Ckc16,[2],0),
  (4,(Ckl1267,[Cke83],[]),380,Ckc16,[3],0),
  (5,(Ckl1267,[Cke84,Cke83],[]),379,Ckc16,[4],0),
  (6,(Ckl1267,[Cke85],[]),378,Ckc16,[5],0),
  (9,(Ckl1267,[Cke141],[]),377,Ckc16,[6],0),
  (11,(Ckl1268,[],[]),376,Ckc16,[7],0),
  (12,(Ckl1268,[Cke6],[]),375,Ckc16,[8],0),
  (13,(Ckl1268,[Cke354,Cke6],[]),374,Ckc16,[9],0),
  (16,(Ckl1268,[Cke277,Cke6],[]),373,Ckc16,[10],0),
  (17,(Ckl1268,[Cke84,Cke277,Cke6],[]),372,Ckc16,[11],0),
  (18,(Ckl1268,[Cke97,Cke6],[]),371,Ckc16,[12],0),
  (19,(Ckl1268,[Cke351],[]),370,Ckc16,[13],0),
  (21,(Ckl1269,[],[]),369,Ckc16,[14],0),
  (22,(Ckl1269,[Cke354],[]),368,Ckc16,[15],0),
  (23,(Ckl1269,[Cke84,Cke354],[]),367,Ckc16,[16],162),
  (26,(Ckl1269,[Cke346],[]),366,Ckc16,[17],0),
  (28,(Ckl1270,[],[]),364,Ckc34,[18],0),
  (30,(Ckl1270,[Cke515],[]),363,Ckc34,[19],0),
  (32,(Ckl1270,[Cke144,Cke515],[]),362,Ckc34,[31,20],0),
  (35,(Ckl1271,[],[]),361,Ckc34,[21],0),
  (37,(Ckl1271,[Cke516],[]),360,Ckc34,[22],0),
  (38,(Ckl1271,[Cke86,Cke516],[]),359,Ckc34,[23],0),
  (39,(Ckl1271,[Cke354,Cke86,Cke516],[]),358,Ckc34,[24],0),
  (41,(Ckl1271,[Cke517,Cke354,Cke86,Cke516],[]),357,Ckc34,[25],0),
  (43,(Ckl1271,[Cke407,Cke517,Cke354,Cke86,Cke516],[]),356,Ckc34,[26],0),
  (45,(Ckl1271,[Cke516,Cke407,Cke517,Cke354,Cke86,Cke516],[]),355,Ckc34,[27],164),
  (48,(Ckl1271,[Cke244,Cke516],[]),354,Ckc34,[28],0),
  (49,(Ckl1271,[Cke244],[]),353,Ckc34,[29],0),
  (51,(Ckl1271,[],[]),352,Ckc34,[30],0),
  (54,(Ckl1272,[],[]),365,Ckc34,[17],0),
  (57,(Ckl1273,[],[]),1,Ckc16,[32],0),
  (59,(Ckl1273,[Cke516],[]),0,Ckc16,[],0)]
def CNC189 : List (List ND) := [CNC189_0]
theorem CKC189 : chkS prot SMsC SMC189 [] CNC189 = true := by decide +kernel
-- OneSided$Plans.roomsByTheEnd [(77, 77), (32, 32), (60, 60), (0, 5)]
def Ckl1274 : AL := [some Cka182,some Cka121,some Cka157,some Cka67,none,none,none]
def Ckl1275 : AL := [some Cka182,some Cka121,some Cka157,some Cka67,some Cka80,none,none]
def Ckl1276 : AL := [some Cka182,some Cka121,some Cka157,some Cka67,some Cka80,some Cka181,none]
def Ckl1277 : AL := [some Cka182,some Cka121,some Cka157,some Cka67,some Cka80,some Cka147,some Cka163]
def Ckl1278 : AL := [some Cka182,some Cka121,some Cka157,some Cka67,some Cka80,some Cka147,some Cka84]
def Ckl1279 : AL := [some Cka182,some Cka121,some Cka157,some Cka67,some Cka80,some Cka147,some Cka85]
def Ckl1280 : AL := [some Cka182,some Cka121,some Cka157,some Cka67,some Cka80,some Cka147,some Cka164]
def CNC190_0 : List ND := [(0,(Ckl1274,[],[]),382,Ckc16,[1],0),
  (1,(Ckl1274,[Cke200],[]),381,Ckc16,[2],0),
  (4,(Ckl1274,[Cke198],[]),380,Ckc16,[3],0),
  (5,(Ckl1274,[Cke84,Cke198],[]),379,Ckc16,[4],0),
  (6,(Ckl1274,[Cke199],[]),378,Ckc16,[5],0),
  (9,(Ckl1274,[Cke141],[]),377,Ckc16,[6],0),
  (11,(Ckl1275,[],[]),376,Ckc16,[7],0),
  (12,(Ckl1275,[Cke6],[]),375,Ckc16,[8],0),
  (13,(Ckl1275,[Cke354,Cke6],[]),374,Ckc16,[9],0),
  (16,(Ckl1275,[Cke277,Cke6],[]),373,Ckc16,[10],0),
  (17,(Ckl1275,[Cke84,Cke277,Cke6],[]),372,Ckc16,[11],0),
  (18,(Ckl1275,[Cke97,Cke6],[]),371,Ckc16,[12],0),
  (19,(Ckl1275,[Cke351],[]),370,Ckc16,[13],0),
  (21,(Ckl1276,[],[]),369,Ckc16,[14],0),
  (22,(Ckl1276,[Cke354],[]),368,Ckc16,[15],0),
  (23,(Ckl1276,[Cke84,Cke354],[]),367,Ckc16,[16],162),
  (26,(Ckl1276,[Cke346],[]),366,Ckc16,[17],0),
  (28,(Ckl1277,[],[]),364,Ckc34,[18],0),
  (30,(Ckl1277,[Cke515],[]),363,Ckc34,[19],0),
  (32,(Ckl1277,[Cke144,Cke515],[]),362,Ckc34,[31,20],0),
  (35,(Ckl1278,[],[]),361,Ckc34,[21],0),
  (37,(Ckl1278,[Cke516],[]),360,Ckc34,[22],0),
  (38,(Ckl1278,[Cke200,Cke516],[]),359,Ckc34,[23],0),
  (39,(Ckl1278,[Cke354,Cke200,Cke516],[]),358,Ckc34,[24],0),
  (41,(Ckl1278,[Cke517,Cke354,Cke200,Cke516],[]),357,Ckc34,[25],0),
  (43,(Ckl1278,[Cke407,Cke517,Cke354,Cke200,Cke516],[]),356,Ckc34,[26],0),
  (45,(Ckl1278,[Cke516,Cke407,Cke517,Cke354,Cke200,Cke516],[]),355,Ckc34,[27],167),
  (48,(Ckl1278,[Cke244,Cke516],[]),354,Ckc34,[28],0),
  (49,(Ckl1278,[Cke244],[]),353,Ckc34,[29],0),
  (51,(Ckl1278,[],[]),352,Ckc34,[30],0),
  (54,(Ckl1279,[],[]),365,Ckc34,[17],0),
  (57,(Ckl1280,[],[]),1,Ckc16,[32],0),
  (59,(Ckl1280,[Cke516],[]),0,Ckc16,[],0)]
def CNC190 : List (List ND) := [CNC190_0]
theorem CKC190 : chkS prot SMsC SMC190 [] CNC190 = true := by decide +kernel
-- OneSided.reach [(1, 1), (-2147483648, 2147483647)]
def CNC191_0 : List ND := [(0,(Ckl725,[],[]),22,Ckc0,[1],0),
  (1,(Ckl725,[Cke288],[]),21,Ckc0,[2],0),
  (2,(Ckl725,[Cke156,Cke288],[]),20,Ckc0,[4,3],138),
  (5,(Ckl725,[Cke7],[]),19,Ckc0,[20],0),
  (5,(Ckl752,[Cke6],[]),16,Ckc0,[5],0),
  (8,(Ckl752,[],[]),15,Ckc0,[6],0),
  (9,(Ckl752,[Cke288],[]),14,Ckc0,[7],0),
  (12,(Ckl752,[Cke360],[]),13,Ckc0,[8],0),
  (13,(Ckl752,[Cke288,Cke360],[]),12,Ckc0,[10,9],0),
  (16,(Ckl752,[Cke290,Cke360],[]),6,Ckc0,[11],0),
  (16,(Ckl752,[Cke291,Cke360],[]),11,Ckc0,[12],0),
  (17,(Ckl752,[Cke288,Cke290,Cke360],[]),5,Ckc0,[13],0),
  (17,(Ckl752,[Cke288,Cke291,Cke360],[]),10,Ckc0,[14],0),
  (20,(Ckl752,[Cke298,Cke290,Cke360],[]),4,Ckc0,[15],0),
  (20,(Ckl752,[Cke298,Cke291,Cke360],[]),9,Ckc0,[16],0),
  (23,(Ckl752,[Cke284,Cke290,Cke360],[]),3,Ckc0,[17],0),
  (23,(Ckl752,[Cke284,Cke291,Cke360],[]),8,Ckc0,[18],0),
  (24,(Ckl752,[Cke305,Cke284,Cke290,Cke360],[]),2,Ckc0,[19],190),
  (24,(Ckl752,[Cke305,Cke284,Cke291,Cke360],[]),7,Ckc0,[19],189),
  (27,(Ckl752,[Cke244],[]),1,Ckc0,[22],0),
  (30,(Ckl725,[],[]),18,Ckc0,[21],0),
  (31,(Ckl725,[Cke51],[]),17,Ckc0,[],0),
  (31,(Ckl752,[Cke244],[]),0,Ckc0,[],0)]
def CNC191 : List (List ND) := [CNC191_0]
theorem CKC191 : chkS prot SMsC SMC191 [] CNC191 = true := by decide +kernel
-- OneSided.stuck [(1, 1)]
def Ckl1281 : AL := [some Cka161,some Cka147,some Cka66]
def Ckc35 : List Int := [0,0,-30]
def Ckl1282 : AL := [some Cka161,some Cka7,some Cka7]
def Cke518 : SE := (Cka66,(1,2,0,0,0))
def Ckl1283 : AL := [some Cka161,some Cka147,some Cka67]
def Cke519 : SE := (Cka147,(1,1,0,0,0))
def Ckl1284 : AL := [some Cka161,some Cka147,some Cka68]
def CNC192_0 : List ND := [(0,(Ckl719,[],[]),215,Ckc1,[1],0),
  (1,(Ckl719,[Cke7],[]),214,Ckc1,[2],0),
  (2,(Ckl722,[],[]),213,Ckc1,[3],0),
  (3,(Ckl722,[Cke7],[]),212,Ckc1,[4],0),
  (4,(Ckl1281,[],[]),210,Ckc35,[6],0),
  (5,(Ckl1282,[Cke23],[]),220,Ckc1,[7],0),
  (5,(Ckl1281,[Cke518],[]),209,Ckc35,[8],0),
  (6,(Ckl1282,[Cke288,Cke23],[]),219,Ckc1,[10,9],0),
  (6,(Ckl1281,[Cke288,Cke518],[]),208,Ckc35,[12,11],0),
  (9,(Ckl1282,[Cke290,Cke23],[]),218,Ckc1,[13],0),
  (9,(Ckl1282,[Cke291,Cke23],[]),217,Ckc1,[13],0),
  (9,(Ckl1281,[Cke290,Cke518],[]),207,Ckc35,[14],0),
  (9,(Ckl1281,[Cke291,Cke518],[]),206,Ckc35,[14],0),
  (12,(Ckl1282,[Cke304,Cke23],[]),216,Ckc1,[45,15],0),
  (12,(Ckl1281,[Cke304,Cke518],[]),205,Ckc35,[45,15],0),
  (15,(Ckl1283,[],[]),204,Ckc35,[16],0),
  (16,(Ckl1283,[Cke288],[]),203,Ckc35,[17],0),
  (19,(Ckl1283,[Cke360],[]),202,Ckc35,[18],0),
  (20,(Ckl1283,[Cke288,Cke360],[]),201,Ckc35,[20,19],0),
  (23,(Ckl1283,[Cke290,Cke360],[]),200,Ckc35,[21],0),
  (23,(Ckl1283,[Cke291,Cke360],[]),195,Ckc35,[22],0),
  (24,(Ckl1283,[Cke288,Cke290,Cke360],[]),199,Ckc35,[23],0),
  (24,(Ckl1283,[Cke288,Cke291,Cke360],[]),194,Ckc35,[24],0),
  (27,(Ckl1283,[Cke298,Cke290,Cke360],[]),198,Ckc35,[25],0),
  (27,(Ckl1283,[Cke298,Cke291,Cke360],[]),193,Ckc35,[26],0),
  (30,(Ckl1283,[Cke284,Cke290,Cke360],[]),197,Ckc35,[29],0),
  (30,(Ckl1283,[Cke284,Cke291,Cke360],[]),192,Ckc35,[30],0),
  (31,(Ckl1282,[Cke23,Cke284,Cke290,Cke360],[]),221,Ckc1,[31],171),
  (31,(Ckl1282,[Cke23,Cke284,Cke291,Cke360],[]),222,Ckc1,[31],170),
  (31,(Ckl1283,[Cke278,Cke284,Cke290,Cke360],[]),196,Ckc35,[31],171),
  (31,(Ckl1283,[Cke278,Cke284,Cke291,Cke360],[]),191,Ckc35,[31],170),
  (34,(Ckl1283,[Cke362],[]),190,Ckc35,[32],0),
  (35,(Ckl1283,[Cke51,Cke362],[]),189,Ckc35,[43,33],0),
  (38,(Ckl1283,[],[]),188,Ckc35,[35],0),
  (39,(Ckl1282,[Cke90],[]),226,Ckc1,[36],0),
  (39,(Ckl1283,[Cke519],[]),187,Ckc35,[37],0),
  (40,(Ckl1282,[Cke6,Cke90],[]),225,Ckc1,[38],0),
  (40,(Ckl1283,[Cke6,Cke519],[]),186,Ckc35,[39],0),
  (41,(Ckl1282,[Cke23,Cke6,Cke90],[]),224,Ckc1,[40],0),
  (41,(Ckl1283,[Cke278,Cke6,Cke519],[]),185,Ckc35,[41],0),
  (42,(Ckl1282,[Cke6,Cke90],[]),223,Ckc1,[42],0),
  (42,(Ckl1283,[Cke282,Cke519],[]),184,Ckc35,[42],0),
  (43,(Ckl1283,[Cke244],[]),183,Ckc35,[43],0),
  (44,(Ckl1283,[],[]),182,Ckc35,[44],0),
  (47,(Ckl1284,[],[]),211,Ckc35,[4],0),
  (50,(Ckl1281,[],[]),1,Ckc1,[46],0),
  (51,(Ckl1281,[Cke519],[]),0,Ckc1,[],0)]
def CNC192 : List (List ND) := [CNC192_0]
theorem CKC192 : chkS prot SMsC SMC192 [] CNC192 = true := by decide +kernel
-- OneSided.ahead [(1, 1), (0, 3), (0, 24)]
def Ckl1285 : AL := [some Cka161,some Cka80,some Cka143]
def CNC193_0 : List ND := [(0,(Ckl1285,[],[]),16,Ckc1,[1],0),
  (1,(Ckl1285,[Cke288],[]),15,Ckc1,[3,2],0),
  (4,(Ckl1285,[Cke290],[]),7,Ckc1,[4],0),
  (4,(Ckl1285,[Cke291],[]),14,Ckc1,[5],0),
  (5,(Ckl1285,[Cke248,Cke290],[]),6,Ckc1,[6],0),
  (5,(Ckl1285,[Cke248,Cke291],[]),13,Ckc1,[7],0),
  (6,(Ckl1285,[Cke259,Cke248,Cke290],[]),5,Ckc1,[8],0),
  (6,(Ckl1285,[Cke259,Cke248,Cke291],[]),12,Ckc1,[9],0),
  (7,(Ckl1285,[Cke288,Cke259,Cke248,Cke290],[]),4,Ckc1,[10],0),
  (7,(Ckl1285,[Cke288,Cke259,Cke248,Cke291],[]),11,Ckc1,[11],0),
  (10,(Ckl1285,[Cke298,Cke259,Cke248,Cke290],[]),3,Ckc1,[12],0),
  (10,(Ckl1285,[Cke298,Cke259,Cke248,Cke291],[]),10,Ckc1,[13],0),
  (13,(Ckl1285,[Cke284,Cke259,Cke248,Cke290],[]),2,Ckc1,[14],0),
  (13,(Ckl1285,[Cke284,Cke259,Cke248,Cke291],[]),9,Ckc1,[15],0),
  (16,(Ckl1285,[Cke303,Cke259,Cke248,Cke290],[]),1,Ckc1,[16],145),
  (16,(Ckl1285,[Cke303,Cke259,Cke248,Cke291],[]),8,Ckc1,[16],142),
  (19,(Ckl1285,[Cke184],[]),0,Ckc1,[],0)]
def CNC193 : List (List ND) := [CNC193_0]
theorem CKC193 : chkS prot SMsC SMC193 [] CNC193 = true := by decide +kernel
-- OneSided.back [(1, 1), (0, 3), (0, 24)]
def CNC194_0 : List ND := [(0,(Ckl1285,[],[]),16,Ckc1,[1],0),
  (1,(Ckl1285,[Cke288],[]),15,Ckc1,[3,2],0),
  (4,(Ckl1285,[Cke290],[]),7,Ckc1,[4],0),
  (4,(Ckl1285,[Cke291],[]),14,Ckc1,[5],0),
  (5,(Ckl1285,[Cke248,Cke290],[]),6,Ckc1,[6],0),
  (5,(Ckl1285,[Cke248,Cke291],[]),13,Ckc1,[7],0),
  (6,(Ckl1285,[Cke259,Cke248,Cke290],[]),5,Ckc1,[8],0),
  (6,(Ckl1285,[Cke259,Cke248,Cke291],[]),12,Ckc1,[9],0),
  (7,(Ckl1285,[Cke288,Cke259,Cke248,Cke290],[]),4,Ckc1,[10],0),
  (7,(Ckl1285,[Cke288,Cke259,Cke248,Cke291],[]),11,Ckc1,[11],0),
  (10,(Ckl1285,[Cke298,Cke259,Cke248,Cke290],[]),3,Ckc1,[12],0),
  (10,(Ckl1285,[Cke298,Cke259,Cke248,Cke291],[]),10,Ckc1,[13],0),
  (13,(Ckl1285,[Cke284,Cke259,Cke248,Cke290],[]),2,Ckc1,[14],0),
  (13,(Ckl1285,[Cke284,Cke259,Cke248,Cke291],[]),9,Ckc1,[15],0),
  (16,(Ckl1285,[Cke303,Cke259,Cke248,Cke290],[]),1,Ckc1,[16],146),
  (16,(Ckl1285,[Cke303,Cke259,Cke248,Cke291],[]),8,Ckc1,[16],143),
  (19,(Ckl1285,[Cke184],[]),0,Ckc1,[],0)]
def CNC194 : List (List ND) := [CNC194_0]
theorem CKC194 : chkS prot SMsC SMC194 [] CNC194 = true := by decide +kernel
-- OneSided$Web.roomsFrom [(5, 5), (-2147483648, 2147483647), (-2147483648, 2147483647), (0, 9)]
def Ckl1286 : AL := [some Cka50,some Cka34,some Cka34,some Cka77,none,none,none]
def Ckl1287 : AL := [some Cka50,some Cka34,some Cka34,some Cka77,some Cka181,none,none]
def Ckl1288 : AL := [some Cka50,some Cka34,some Cka34,some Cka77,some Cka147,some Cka92,none]
def Ckc36 : List Int := [0,0,0,0,0,-18,0]
def Ckl1289 : AL := [some Cka50,some Cka34,some Cka34,some Cka77,some Cka181,some Cka7,none]
def Cke520 : SE := (Cka92,(1,5,0,0,0))
def Ckl1290 : AL := [some Cka50,some Cka34,some Cka34,some Cka77,some Cka147,some Cka77,none]
def Ckl1291 : AL := [some Cka50,some Cka34,some Cka34,some Cka77,some Cka147,some Cka77,some Cka147]
def Cka240 : AV := (0,1,10,1)
def Ckl1292 : AL := [some Cka50,some Cka34,some Cka34,some Cka77,some Cka147,some Cka240,some Cka147]
def CNC195_0 : List ND := [(0,(Ckl1286,[],[]),206,Ckc16,[1],0),
  (1,(Ckl1286,[Cke6],[]),205,Ckc16,[2],0),
  (2,(Ckl1286,[Cke98,Cke6],[]),204,Ckc16,[3],0),
  (3,(Ckl1286,[Cke351],[]),203,Ckc16,[4],0),
  (5,(Ckl1287,[],[]),202,Ckc16,[5],0),
  (6,(Ckl1287,[Cke7],[]),201,Ckc16,[6],0),
  (8,(Ckl1288,[],[]),199,Ckc36,[8],0),
  (10,(Ckl1289,[Cke216],[]),208,Ckc16,[9],0),
  (10,(Ckl1288,[Cke520],[]),198,Ckc36,[10],0),
  (12,(Ckl1289,[Cke48,Cke216],[]),207,Ckc16,[11],0),
  (12,(Ckl1288,[Cke48,Cke520],[]),197,Ckc36,[27,11],0),
  (15,(Ckl1290,[],[]),196,Ckc36,[12],0),
  (17,(Ckl1290,[Cke350],[]),195,Ckc36,[13],0),
  (18,(Ckl1290,[Cke53,Cke350],[]),194,Ckc36,[14],0),
  (19,(Ckl1290,[Cke156,Cke53,Cke350],[]),193,Ckc36,[15],0),
  (20,(Ckl1290,[Cke209,Cke156,Cke53,Cke350],[]),192,Ckc36,[16],0),
  (22,(Ckl1290,[Cke350,Cke209,Cke156,Cke53,Cke350],[]),191,Ckc36,[17],163),
  (25,(Ckl1290,[Cke244,Cke350],[]),190,Ckc36,[18],0),
  (26,(Ckl1290,[Cke244],[]),189,Ckc36,[19],0),
  (28,(Ckl1291,[],[]),188,Ckc36,[20],0),
  (30,(Ckl1291,[Cke251],[]),187,Ckc36,[21],0),
  (32,(Ckl1291,[Cke350,Cke251],[]),186,Ckc36,[23,22],0),
  (35,(Ckl1291,[],[]),2,Ckc16,[27],0),
  (38,(Ckl1291,[],[]),185,Ckc36,[24],0),
  (40,(Ckl1291,[Cke251],[]),184,Ckc36,[25],0),
  (42,(Ckl1291,[],[]),183,Ckc36,[26],0),
  (45,(Ckl1292,[],[]),200,Ckc36,[6],0),
  (48,(Ckl1288,[],[]),1,Ckc16,[28],0),
  (50,(Ckl1288,[Cke350],[]),0,Ckc16,[],0)]
def CNC195 : List (List ND) := [CNC195_0]
theorem CKC195 : chkS prot SMsC SMC195 [] CNC195 = true := by decide +kernel
-- OneSided$Web.ringOf [(5, 5), (-2147483648, 2147483647), (-2147483648, 2147483647), (0, 9)]
def Ckl1293 : AL := [some Cka50,some Cka34,some Cka34,some Cka77]
def CNC196_0 : List ND := [(0,(Ckl1293,[],[]),11,Ckc7,[1],0),
  (1,(Ckl1293,[Cke53],[]),10,Ckc7,[2],0),
  (2,(Ckl1293,[Cke156,Cke53],[]),9,Ckc7,[3],0),
  (3,(Ckl1293,[Cke209,Cke156,Cke53],[]),8,Ckc7,[4],0),
  (4,(Ckl1293,[Cke98,Cke209,Cke156,Cke53],[]),7,Ckc7,[5],195),
  (7,(Ckl1293,[Cke244],[]),6,Ckc7,[6],0),
  (8,(Ckl1293,[Cke53,Cke244],[]),5,Ckc7,[7],0),
  (9,(Ckl1293,[Cke209,Cke53,Cke244],[]),4,Ckc7,[8],0),
  (10,(Ckl1293,[Cke156,Cke209,Cke53,Cke244],[]),3,Ckc7,[9],0),
  (11,(Ckl1293,[Cke98,Cke156,Cke209,Cke53,Cke244],[]),2,Ckc7,[10],195),
  (14,(Ckl1293,[Cke244,Cke244],[]),1,Ckc7,[11],0),
  (15,(Ckl1293,[Cke244],[]),0,Ckc7,[],0)]
def CNC196 : List (List ND) := [CNC196_0]
theorem CKC196 : chkS prot SMsC SMC196 [] CNC196 = true := by decide +kernel
-- OneSided$Web.roomsFrom [(32, 32), (-2147483648, 2147483647), (-2147483648, 2147483647), (0, 9)]
def Ckl1294 : AL := [some Cka121,some Cka34,some Cka34,some Cka77,none,none,none]
def Ckl1295 : AL := [some Cka121,some Cka34,some Cka34,some Cka77,some Cka181,none,none]
def Ckl1296 : AL := [some Cka121,some Cka34,some Cka34,some Cka77,some Cka147,some Cka92,none]
def Ckl1297 : AL := [some Cka121,some Cka34,some Cka34,some Cka77,some Cka181,some Cka7,none]
def Ckl1298 : AL := [some Cka121,some Cka34,some Cka34,some Cka77,some Cka147,some Cka77,none]
def Ckl1299 : AL := [some Cka121,some Cka34,some Cka34,some Cka77,some Cka147,some Cka77,some Cka147]
def Ckl1300 : AL := [some Cka121,some Cka34,some Cka34,some Cka77,some Cka147,some Cka240,some Cka147]
def CNC197_0 : List ND := [(0,(Ckl1294,[],[]),206,Ckc16,[1],0),
  (1,(Ckl1294,[Cke6],[]),205,Ckc16,[2],0),
  (2,(Ckl1294,[Cke98,Cke6],[]),204,Ckc16,[3],0),
  (3,(Ckl1294,[Cke351],[]),203,Ckc16,[4],0),
  (5,(Ckl1295,[],[]),202,Ckc16,[5],0),
  (6,(Ckl1295,[Cke7],[]),201,Ckc16,[6],0),
  (8,(Ckl1296,[],[]),199,Ckc36,[8],0),
  (10,(Ckl1297,[Cke216],[]),208,Ckc16,[9],0),
  (10,(Ckl1296,[Cke520],[]),198,Ckc36,[10],0),
  (12,(Ckl1297,[Cke48,Cke216],[]),207,Ckc16,[11],0),
  (12,(Ckl1296,[Cke48,Cke520],[]),197,Ckc36,[27,11],0),
  (15,(Ckl1298,[],[]),196,Ckc36,[12],0),
  (17,(Ckl1298,[Cke350],[]),195,Ckc36,[13],0),
  (18,(Ckl1298,[Cke193,Cke350],[]),194,Ckc36,[14],0),
  (19,(Ckl1298,[Cke156,Cke193,Cke350],[]),193,Ckc36,[15],0),
  (20,(Ckl1298,[Cke209,Cke156,Cke193,Cke350],[]),192,Ckc36,[16],0),
  (22,(Ckl1298,[Cke350,Cke209,Cke156,Cke193,Cke350],[]),191,Ckc36,[17],166),
  (25,(Ckl1298,[Cke244,Cke350],[]),190,Ckc36,[18],0),
  (26,(Ckl1298,[Cke244],[]),189,Ckc36,[19],0),
  (28,(Ckl1299,[],[]),188,Ckc36,[20],0),
  (30,(Ckl1299,[Cke251],[]),187,Ckc36,[21],0),
  (32,(Ckl1299,[Cke350,Cke251],[]),186,Ckc36,[23,22],0),
  (35,(Ckl1299,[],[]),2,Ckc16,[27],0),
  (38,(Ckl1299,[],[]),185,Ckc36,[24],0),
  (40,(Ckl1299,[Cke251],[]),184,Ckc36,[25],0),
  (42,(Ckl1299,[],[]),183,Ckc36,[26],0),
  (45,(Ckl1300,[],[]),200,Ckc36,[6],0),
  (48,(Ckl1296,[],[]),1,Ckc16,[28],0),
  (50,(Ckl1296,[Cke350],[]),0,Ckc16,[],0)]
def CNC197 : List (List ND) := [CNC197_0]
theorem CKC197 : chkS prot SMsC SMC197 [] CNC197 = true := by decide +kernel
-- OneSided$Web.ringOf [(32, 32), (-2147483648, 2147483647), (-2147483648, 2147483647), (0, 9)]
def Ckl1301 : AL := [some Cka121,some Cka34,some Cka34,some Cka77]
def CNC198_0 : List ND := [(0,(Ckl1301,[],[]),11,Ckc7,[1],0),
  (1,(Ckl1301,[Cke193],[]),10,Ckc7,[2],0),
  (2,(Ckl1301,[Cke156,Cke193],[]),9,Ckc7,[3],0),
  (3,(Ckl1301,[Cke209,Cke156,Cke193],[]),8,Ckc7,[4],0),
  (4,(Ckl1301,[Cke98,Cke209,Cke156,Cke193],[]),7,Ckc7,[5],197),
  (7,(Ckl1301,[Cke244],[]),6,Ckc7,[6],0),
  (8,(Ckl1301,[Cke193,Cke244],[]),5,Ckc7,[7],0),
  (9,(Ckl1301,[Cke209,Cke193,Cke244],[]),4,Ckc7,[8],0),
  (10,(Ckl1301,[Cke156,Cke209,Cke193,Cke244],[]),3,Ckc7,[9],0),
  (11,(Ckl1301,[Cke98,Cke156,Cke209,Cke193,Cke244],[]),2,Ckc7,[10],197),
  (14,(Ckl1301,[Cke244,Cke244],[]),1,Ckc7,[11],0),
  (15,(Ckl1301,[Cke244],[]),0,Ckc7,[],0)]
def CNC198 : List (List ND) := [CNC198_0]
theorem CKC198 : chkS prot SMsC SMC198 [] CNC198 = true := by decide +kernel
-- OneSided.ring [(1, 1), (-2147483648, 2147483647), (-2147483648, 2147483647), (-2147483648, 2147483647)]
def Ckl1302 : AL := [some Cka161,some Cka34,some Cka34,some Cka34]
def Ckl1303 : AL := [some Cka161,some Cka77,some Cka34,some Cka34]
def Ckl1304 : AL := [some Cka161,some Cka77,some Cka80,some Cka84]
def CNC199_0 : List ND := [(0,(Ckl1302,[],[]),35,Ckc7,[1],0),
  (1,(Ckl1302,[Cke288],[]),34,Ckc7,[2],0),
  (2,(Ckl1302,[Cke156,Cke288],[]),33,Ckc7,[4,3],140),
  (5,(Ckl1302,[Cke7],[]),32,Ckc7,[11],0),
  (5,(Ckl1303,[Cke6],[]),31,Ckc7,[5],0),
  (8,(Ckl1303,[],[]),30,Ckc7,[6],0),
  (9,(Ckl1303,[Cke288],[]),29,Ckc7,[7],0),
  (10,(Ckl1303,[Cke209,Cke288],[]),28,Ckc7,[8],0),
  (11,(Ckl1303,[Cke210,Cke209,Cke288],[]),27,Ckc7,[10,9],141),
  (14,(Ckl1303,[Cke7],[]),2,Ckc7,[11],0),
  (14,(Ckl1304,[Cke6],[]),26,Ckc7,[13],0),
  (17,(Ckl1302,[],[]),1,Ckc7,[12],0),
  (18,(Ckl1302,[Cke51],[]),0,Ckc7,[],0),
  (19,(Ckl1304,[],[]),25,Ckc7,[14],0),
  (20,(Ckl1304,[Cke288],[]),24,Ckc7,[16,15],0),
  (23,(Ckl1304,[Cke290],[]),23,Ckc7,[17],0),
  (23,(Ckl1304,[Cke291],[]),13,Ckc7,[18],0),
  (24,(Ckl1304,[Cke288,Cke290],[]),22,Ckc7,[19],0),
  (24,(Ckl1304,[Cke288,Cke291],[]),12,Ckc7,[20],0),
  (25,(Ckl1304,[Cke108,Cke288,Cke290],[]),21,Ckc7,[21],0),
  (25,(Ckl1304,[Cke108,Cke288,Cke291],[]),11,Ckc7,[22],0),
  (26,(Ckl1304,[Cke114,Cke108,Cke288,Cke290],[]),20,Ckc7,[23],193),
  (26,(Ckl1304,[Cke114,Cke108,Cke288,Cke291],[]),10,Ckc7,[24],193),
  (29,(Ckl1304,[Cke184,Cke290],[]),19,Ckc7,[25],0),
  (29,(Ckl1304,[Cke184,Cke291],[]),9,Ckc7,[26],0),
  (30,(Ckl1304,[Cke288,Cke184,Cke290],[]),18,Ckc7,[27],0),
  (30,(Ckl1304,[Cke288,Cke184,Cke291],[]),8,Ckc7,[28],0),
  (31,(Ckl1304,[Cke108,Cke288,Cke184,Cke290],[]),17,Ckc7,[29],0),
  (31,(Ckl1304,[Cke108,Cke288,Cke184,Cke291],[]),7,Ckc7,[30],0),
  (32,(Ckl1304,[Cke114,Cke108,Cke288,Cke184,Cke290],[]),16,Ckc7,[31],194),
  (32,(Ckl1304,[Cke114,Cke108,Cke288,Cke184,Cke291],[]),6,Ckc7,[32],194),
  (35,(Ckl1304,[Cke184,Cke184,Cke290],[]),15,Ckc7,[33],0),
  (35,(Ckl1304,[Cke184,Cke184,Cke291],[]),5,Ckc7,[34],0),
  (36,(Ckl1304,[Cke99,Cke184,Cke184,Cke290],[]),14,Ckc7,[35],198),
  (36,(Ckl1304,[Cke99,Cke184,Cke184,Cke291],[]),4,Ckc7,[35],196),
  (39,(Ckl1304,[Cke244],[]),3,Ckc7,[],0)]
def CNC199 : List (List ND) := [CNC199_0]
theorem CKC199 : chkS prot SMsC SMC199 [] CNC199 = true := by decide +kernel
-- OneSided.homeless [(1, 1), (-2147483648, 2147483647), (-2147483648, 2147483647), (-2147483648, 2147483647)]
def Ckl1305 : AL := [some Cka161,some Cka34,some Cka34,some Cka34,none]
def Ckl1306 : AL := [some Cka161,some Cka77,some Cka34,some Cka34,none]
def Ckl1307 : AL := [some Cka161,some Cka77,some Cka80,some Cka84,none]
def Cka241 : AV := (0,4,1024,1)
def Cke521 : SE := (Cka241,pv0)
def Cka242 : AV := (0,3,1023,1)
def Cke522 : SE := (Cka242,pv0)
def Ckl1308 : AL := [some Cka161,some Cka77,some Cka80,some Cka84,some Cka242]
def Cke523 : SE := (Cka242,(1,4,0,0,0))
def CNC200_0 : List ND := [(0,(Ckl1305,[],[]),48,Ckc12,[1],0),
  (1,(Ckl1305,[Cke288],[]),47,Ckc12,[2],0),
  (2,(Ckl1305,[Cke156,Cke288],[]),46,Ckc12,[4,3],140),
  (5,(Ckl1305,[Cke7],[]),45,Ckc12,[11],0),
  (5,(Ckl1306,[Cke6],[]),44,Ckc12,[5],0),
  (8,(Ckl1306,[],[]),43,Ckc12,[6],0),
  (9,(Ckl1306,[Cke288],[]),42,Ckc12,[7],0),
  (10,(Ckl1306,[Cke209,Cke288],[]),41,Ckc12,[8],0),
  (11,(Ckl1306,[Cke210,Cke209,Cke288],[]),40,Ckc12,[10,9],141),
  (14,(Ckl1306,[Cke7],[]),2,Ckc12,[11],0),
  (14,(Ckl1307,[Cke6],[]),39,Ckc12,[13],0),
  (17,(Ckl1305,[],[]),1,Ckc12,[12],0),
  (18,(Ckl1305,[Cke51],[]),0,Ckc12,[],0),
  (19,(Ckl1307,[],[]),38,Ckc12,[14],0),
  (20,(Ckl1307,[Cke6],[]),37,Ckc12,[15],0),
  (21,(Ckl1307,[Cke288,Cke6],[]),36,Ckc12,[17,16],0),
  (24,(Ckl1307,[Cke290,Cke6],[]),35,Ckc12,[18],0),
  (24,(Ckl1307,[Cke291,Cke6],[]),34,Ckc12,[18],0),
  (27,(Ckl1307,[Cke68,Cke6],[]),33,Ckc12,[19],0),
  (28,(Ckl1307,[Cke521],[]),32,Ckc12,[20],0),
  (29,(Ckl1307,[Cke6,Cke521],[]),31,Ckc12,[21],0),
  (30,(Ckl1307,[Cke522],[]),30,Ckc12,[22],0),
  (32,(Ckl1308,[],[]),29,Ckc12,[23],0),
  (34,(Ckl1308,[Cke523],[]),28,Ckc12,[24],0),
  (35,(Ckl1308,[Cke288,Cke523],[]),27,Ckc12,[26,25],0),
  (38,(Ckl1308,[Cke290,Cke523],[]),26,Ckc12,[27],0),
  (38,(Ckl1308,[Cke291,Cke523],[]),16,Ckc12,[28],0),
  (39,(Ckl1308,[Cke288,Cke290,Cke523],[]),25,Ckc12,[29],0),
  (39,(Ckl1308,[Cke288,Cke291,Cke523],[]),15,Ckc12,[30],0),
  (40,(Ckl1308,[Cke108,Cke288,Cke290,Cke523],[]),24,Ckc12,[31],0),
  (40,(Ckl1308,[Cke108,Cke288,Cke291,Cke523],[]),14,Ckc12,[32],0),
  (41,(Ckl1308,[Cke114,Cke108,Cke288,Cke290,Cke523],[]),23,Ckc12,[33],194),
  (41,(Ckl1308,[Cke114,Cke108,Cke288,Cke291,Cke523],[]),13,Ckc12,[34],194),
  (44,(Ckl1308,[Cke184,Cke290,Cke523],[]),22,Ckc12,[35],0),
  (44,(Ckl1308,[Cke184,Cke291,Cke523],[]),12,Ckc12,[36],0),
  (45,(Ckl1308,[Cke288,Cke184,Cke290,Cke523],[]),21,Ckc12,[37],0),
  (45,(Ckl1308,[Cke288,Cke184,Cke291,Cke523],[]),11,Ckc12,[38],0),
  (46,(Ckl1308,[Cke108,Cke288,Cke184,Cke290,Cke523],[]),20,Ckc12,[39],0),
  (46,(Ckl1308,[Cke108,Cke288,Cke184,Cke291,Cke523],[]),10,Ckc12,[40],0),
  (47,(Ckl1308,[Cke114,Cke108,Cke288,Cke184,Cke290,Cke523],[]),19,Ckc12,[41],193),
  (47,(Ckl1308,[Cke114,Cke108,Cke288,Cke184,Cke291,Cke523],[]),9,Ckc12,[42],193),
  (50,(Ckl1308,[Cke184,Cke184,Cke290,Cke523],[]),18,Ckc12,[43],0),
  (50,(Ckl1308,[Cke184,Cke184,Cke291,Cke523],[]),8,Ckc12,[44],0),
  (51,(Ckl1308,[Cke99,Cke184,Cke184,Cke290,Cke523],[]),17,Ckc12,[45],197),
  (51,(Ckl1308,[Cke99,Cke184,Cke184,Cke291,Cke523],[]),7,Ckc12,[45],195),
  (54,(Ckl1308,[Cke244,Cke523],[]),6,Ckc12,[46],0),
  (55,(Ckl1308,[Cke51,Cke244,Cke523],[]),5,Ckc12,[47],0),
  (56,(Ckl1308,[Cke184,Cke523],[]),4,Ckc12,[48],0),
  (57,(Ckl1308,[Cke244],[]),3,Ckc12,[],0)]
def CNC200 : List (List ND) := [CNC200_0]
theorem CKC200 : chkS prot SMsC SMC200 [] CNC200 = true := by decide +kernel
-- OneSided$Web.doorsToAdd [(5, 5), (-2147483648, 2147483647), (-2147483648, 2147483647), (1, 1)]
def Ckl1309 : AL := [some Cka50,some Cka34,some Cka34,some Cka6,none,none,none,none,none,none,none]
def Ckl1310 : AL := [some Cka50,some Cka34,some Cka34,some Cka6,some Cka7,none,none,none,none,none,none]
def Ckl1311 : AL := [some Cka50,some Cka34,some Cka34,some Cka6,some Cka7,some Cka7,none,none,none,none,none]
def Ckl1312 : AL := [some Cka50,some Cka34,some Cka34,some Cka6,some Cka7,some Cka7,some Cka7,none,none,none,none]
def Ckl1313 : AL := [some Cka50,some Cka34,some Cka34,some Cka6,some Cka34,some Cka34,some Cka34,some Cka92,none,none,none]
def Ckc37 : List Int := [0,0,0,0,0,0,0,-52,0,0,0]
def Ckl1314 : AL := [some Cka50,some Cka34,some Cka34,some Cka6,some Cka7,some Cka7,some Cka7,some Cka7,none,none,none]
def Cke524 : SE := (Cka92,(1,7,0,0,0))
def Ckl1315 : AL := [some Cka50,some Cka34,some Cka34,some Cka6,some Cka34,some Cka34,some Cka34,some Cka77,none,none,none]
def Ckf139 : FA := [(5,0,Cka59)]
def Cke525 : SE := (Cka77,(1,7,0,0,0))
def Ckl1316 : AL := [some Cka50,some Cka34,some Cka34,some Cka6,some Cka34,some Cka34,some Cka34,some Cka77,some Cka147,none,none]
def Ckl1317 : AL := [some Cka50,some Cka34,some Cka34,some Cka6,some Cka7,some Cka7,some Cka7,some Cka7,some Cka147,none,none]
def Ckl1318 : AL := [some Cka50,some Cka34,some Cka34,some Cka6,some Cka34,some Cka34,some Cka34,some Cka77,some Cka147,some Cka147,none]
def Cke526 : SE := (Cka147,(1,9,0,0,0))
def Ckl1319 : AL := [some Cka50,some Cka34,some Cka34,some Cka6,some Cka34,some Cka34,some Cka34,some Cka77,some Cka147,some Cka147,some Cka147]
def Ckl1320 : AL := [some Cka50,some Cka34,some Cka34,some Cka6,some Cka7,some Cka7,some Cka7,some Cka7,some Cka147,some Cka147,some Cka147]
def Cka243 : AV := (0,0,511,1)
def Cke527 : SE := (Cka243,pv0)
def Ckl1321 : AL := [some Cka50,some Cka34,some Cka34,some Cka6,some Cka6,some Cka7,some Cka7,some Cka7,some Cka147,some Cka147,some Cka147]
def Ckl1322 : AL := [some Cka50,some Cka34,some Cka34,some Cka6,some Cka6,some Cka96,some Cka7,some Cka7,some Cka147,some Cka147,some Cka147]
def Ckl1323 : AL := [some Cka50,some Cka34,some Cka34,some Cka6,some Cka34,some Cka34,some Cka34,some Cka240,some Cka147,some Cka147,some Cka147]
def Ckl1324 : AL := [some Cka50,some Cka34,some Cka34,some Cka6,some Cka34,some Cka34,some Cka34,some Cka59,none,none,none]
def Ckl1325 : AL := [some Cka50,some Cka34,some Cka34,some Cka6,some Cka6,some Cka34,some Cka34,some Cka59,none,none,none]
def CNC201_0 : List ND := [(0,(Ckl1309,[],[]),597,Ckc24,[1],0),
  (1,(Ckl1309,[Cke7],[]),596,Ckc24,[2],0),
  (3,(Ckl1310,[],[]),595,Ckc24,[3],0),
  (4,(Ckl1310,[Cke7],[]),594,Ckc24,[4],0),
  (6,(Ckl1311,[],[]),593,Ckc24,[5],0),
  (7,(Ckl1311,[Cke7],[]),592,Ckc24,[6],0),
  (9,(Ckl1312,[],[]),591,Ckc24,[7],0),
  (10,(Ckl1312,[Cke7],[]),590,Ckc24,[8],0),
  (12,(Ckl1313,[],[]),588,Ckc37,[10],0),
  (14,(Ckl1314,[Cke386],[]),600,Ckc24,[11],0),
  (14,(Ckl1313,[Cke524],[]),587,Ckc37,[12],0),
  (15,(Ckl1314,[Cke53,Cke386],[]),599,Ckc24,[13],0),
  (15,(Ckl1313,[Cke53,Cke524],[]),586,Ckc37,[14],0),
  (18,(Ckl1314,[Cke140,Cke386],[]),598,Ckc24,[15],0),
  (18,(Ckl1313,[Cke140,Cke524],[]),585,Ckc37,[90,15],0),
  (21,(Ckl1315,[],[]),584,Ckc37,[16],0),
  (22,(Ckl1315,[Cke53],[]),583,Ckc37,[17],0),
  (23,(Ckl1315,[Cke156,Cke53],[]),582,Ckc37,[18],0),
  (24,(Ckl1315,[Cke209,Cke156,Cke53],[]),581,Ckc37,[20],0),
  (26,(Ckl1314,[Cke386,Cke209,Cke156,Cke53],Ckf139),601,Ckc24,[21],195),
  (26,(Ckl1315,[Cke525,Cke209,Cke156,Cke53],[]),580,Ckc37,[21],195),
  (29,(Ckl1315,[Cke244],[]),579,Ckc37,[22],0),
  (31,(Ckl1316,[],[]),578,Ckc37,[23],0),
  (32,(Ckl1316,[Cke53],[]),577,Ckc37,[24],0),
  (33,(Ckl1316,[Cke209,Cke53],[]),576,Ckc37,[25],0),
  (34,(Ckl1316,[Cke156,Cke209,Cke53],[]),575,Ckc37,[27],0),
  (36,(Ckl1317,[Cke386,Cke156,Cke209,Cke53],Ckf139),602,Ckc24,[28],195),
  (36,(Ckl1316,[Cke525,Cke156,Cke209,Cke53],[]),574,Ckc37,[28],195),
  (39,(Ckl1316,[Cke244],[]),573,Ckc37,[29],0),
  (41,(Ckl1318,[],[]),572,Ckc37,[30],0),
  (43,(Ckl1318,[Cke245],[]),571,Ckc37,[31],0),
  (45,(Ckl1318,[Cke526,Cke245],[]),570,Ckc37,[32],0),
  (46,(Ckl1318,[Cke244],[]),569,Ckc37,[33],0),
  (48,(Ckl1319,[],[]),568,Ckc37,[34],0),
  (50,(Ckl1319,[Cke369],[]),567,Ckc37,[35],0),
  (51,(Ckl1319,[Cke6,Cke369],[]),566,Ckc37,[37],0),
  (53,(Ckl1320,[Cke386,Cke6,Cke369],Ckf139),607,Ckc24,[38],0),
  (53,(Ckl1319,[Cke525,Cke6,Cke369],[]),565,Ckc37,[39],0),
  (54,(Ckl1320,[Cke6,Cke369],Ckf139),606,Ckc24,[40],0),
  (54,(Ckl1319,[Cke351,Cke369],[]),564,Ckc37,[41],0),
  (55,(Ckl1320,[Cke6,Cke6,Cke369],Ckf139),605,Ckc24,[42],0),
  (55,(Ckl1319,[Cke6,Cke351,Cke369],[]),563,Ckc37,[43],0),
  (56,(Ckl1320,[Cke7,Cke369],Ckf139),604,Ckc24,[44],0),
  (56,(Ckl1319,[Cke527,Cke369],[]),562,Ckc37,[45],0),
  (57,(Ckl1320,[Cke7],Ckf139),603,Ckc24,[47],0),
  (57,(Ckl1319,[Cke527],[]),561,Ckc37,[47,46],0),
  (60,(Ckl1319,[],[]),539,Ckc37,[88],0),
  (63,(Ckl1319,[],[]),560,Ckc37,[48],0),
  (66,(Ckl1319,[],[]),559,Ckc37,[50],0),
  (68,(Ckl1321,[Cke216],Ckf139),617,Ckc24,[51],0),
  (68,(Ckl1319,[Cke311],[]),558,Ckc37,[52],0),
  (70,(Ckl1321,[Cke526,Cke216],Ckf139),616,Ckc24,[53],0),
  (70,(Ckl1319,[Cke526,Cke311],[]),557,Ckc37,[54],0),
  (72,(Ckl1321,[Cke369,Cke526,Cke216],Ckf139),615,Ckc24,[59,55],0),
  (72,(Ckl1319,[Cke369,Cke526,Cke311],[]),556,Ckc37,[60,56],0),
  (75,(Ckl1321,[Cke216],Ckf139),611,Ckc24,[57],0),
  (75,(Ckl1319,[Cke311],[]),555,Ckc37,[58],0),
  (76,(Ckl1321,[Cke6,Cke216],Ckf139),610,Ckc24,[62],0),
  (76,(Ckl1319,[Cke6,Cke311],[]),554,Ckc37,[64],0),
  (79,(Ckl1321,[Cke216],Ckf139),614,Ckc24,[61],0),
  (79,(Ckl1319,[Cke311],[]),552,Ckc37,[63],0),
  (80,(Ckl1321,[Cke7,Cke216],Ckf139),613,Ckc24,[65],0),
  (80,(Ckl1321,[Cke6,Cke216],Ckf139),609,Ckc24,[66],0),
  (80,(Ckl1319,[Cke7,Cke311],[]),551,Ckc37,[67],0)]
def CNC201_1 : List ND := [(80,(Ckl1319,[Cke6,Cke311],[]),553,Ckc37,[67],0),
  (81,(Ckl1321,[Cke7],Ckf139),612,Ckc24,[68],0),
  (81,(Ckl1321,[Cke6],Ckf139),608,Ckc24,[68],0),
  (81,(Ckl1319,[Cke184],[]),550,Ckc37,[68],0),
  (83,(Ckl1319,[],[]),549,Ckc37,[70],0),
  (85,(Ckl1322,[Cke212],[]),627,Ckc24,[71],0),
  (85,(Ckl1319,[Cke353],[]),548,Ckc37,[72],0),
  (87,(Ckl1322,[Cke245,Cke212],[]),626,Ckc24,[73],0),
  (87,(Ckl1319,[Cke245,Cke353],[]),547,Ckc37,[74],0),
  (89,(Ckl1322,[Cke369,Cke245,Cke212],[]),625,Ckc24,[79,75],0),
  (89,(Ckl1319,[Cke369,Cke245,Cke353],[]),546,Ckc37,[80,76],0),
  (92,(Ckl1322,[Cke212],[]),621,Ckc24,[77],0),
  (92,(Ckl1319,[Cke353],[]),543,Ckc37,[78],0),
  (93,(Ckl1322,[Cke6,Cke212],[]),620,Ckc24,[82],0),
  (93,(Ckl1319,[Cke6,Cke353],[]),542,Ckc37,[84],0),
  (96,(Ckl1322,[Cke212],[]),624,Ckc24,[81],0),
  (96,(Ckl1319,[Cke353],[]),545,Ckc37,[83],0),
  (97,(Ckl1322,[Cke7,Cke212],[]),623,Ckc24,[85],0),
  (97,(Ckl1322,[Cke6,Cke212],[]),619,Ckc24,[86],0),
  (97,(Ckl1319,[Cke7,Cke353],[]),544,Ckc37,[87],0),
  (97,(Ckl1319,[Cke6,Cke353],[]),541,Ckc37,[87],0),
  (98,(Ckl1322,[Cke7],[]),622,Ckc24,[88],0),
  (98,(Ckl1322,[Cke6],[]),618,Ckc24,[88],0),
  (98,(Ckl1319,[Cke184],[]),540,Ckc37,[88],0),
  (100,(Ckl1319,[],[]),538,Ckc37,[89],0),
  (103,(Ckl1323,[],[]),589,Ckc37,[8],0),
  (106,(Ckl1324,[],[]),17,Ckc24,[91],0),
  (108,(Ckl1324,[Cke211],[]),16,Ckc24,[92],0),
  (109,(Ckl1324,[Cke6,Cke211],[]),15,Ckc24,[95,93],0),
  (112,(Ckl1325,[],[]),1,Ckc24,[94],0),
  (113,(Ckl1325,[Cke7],[]),0,Ckc24,[],0),
  (114,(Ckl1324,[],[]),14,Ckc24,[96],0),
  (115,(Ckl1324,[Cke191],[]),13,Ckc24,[97],0),
  (118,(Ckl1324,[],[]),12,Ckc24,[98],0),
  (120,(Ckl1324,[Cke311],[]),11,Ckc24,[99],0),
  (122,(Ckl1324,[Cke211,Cke311],[]),10,Ckc24,[104,100],0),
  (125,(Ckl1324,[],[]),5,Ckc24,[101],0),
  (127,(Ckl1324,[Cke211],[]),4,Ckc24,[102],0),
  (128,(Ckl1324,[Cke6,Cke211],[]),3,Ckc24,[103],0),
  (129,(Ckl1324,[Cke184],[]),2,Ckc24,[],0),
  (130,(Ckl1324,[],[]),9,Ckc24,[105],0),
  (132,(Ckl1324,[Cke311],[]),8,Ckc24,[106],0),
  (134,(Ckl1324,[Cke353,Cke311],[]),7,Ckc24,[107],0),
  (137,(Ckl1324,[Cke184],[]),6,Ckc24,[],0)]
def CNC201 : List (List ND) := [CNC201_0, CNC201_1]
theorem CKC201 : chkS prot SMsC SMC201 [] CNC201 = true := by decide +kernel
-- OneSided$Web.doorsToAdd [(32, 32), (-2147483648, 2147483647), (-2147483648, 2147483647), (1, 1)]
def Ckl1326 : AL := [some Cka121,some Cka34,some Cka34,some Cka6,none,none,none,none,none,none,none]
def Ckl1327 : AL := [some Cka121,some Cka34,some Cka34,some Cka6,some Cka7,none,none,none,none,none,none]
def Ckl1328 : AL := [some Cka121,some Cka34,some Cka34,some Cka6,some Cka7,some Cka7,none,none,none,none,none]
def Ckl1329 : AL := [some Cka121,some Cka34,some Cka34,some Cka6,some Cka7,some Cka7,some Cka7,none,none,none,none]
def Ckl1330 : AL := [some Cka121,some Cka34,some Cka34,some Cka6,some Cka34,some Cka34,some Cka34,some Cka92,none,none,none]
def Ckl1331 : AL := [some Cka121,some Cka34,some Cka34,some Cka6,some Cka7,some Cka7,some Cka7,some Cka7,none,none,none]
def Ckl1332 : AL := [some Cka121,some Cka34,some Cka34,some Cka6,some Cka34,some Cka34,some Cka34,some Cka77,none,none,none]
def Ckf140 : FA := [(32,0,Cka59)]
def Ckl1333 : AL := [some Cka121,some Cka34,some Cka34,some Cka6,some Cka34,some Cka34,some Cka34,some Cka77,some Cka147,none,none]
def Ckl1334 : AL := [some Cka121,some Cka34,some Cka34,some Cka6,some Cka7,some Cka7,some Cka7,some Cka7,some Cka147,none,none]
def Ckl1335 : AL := [some Cka121,some Cka34,some Cka34,some Cka6,some Cka34,some Cka34,some Cka34,some Cka77,some Cka147,some Cka147,none]
def Ckl1336 : AL := [some Cka121,some Cka34,some Cka34,some Cka6,some Cka34,some Cka34,some Cka34,some Cka77,some Cka147,some Cka147,some Cka147]
def Ckl1337 : AL := [some Cka121,some Cka34,some Cka34,some Cka6,some Cka7,some Cka7,some Cka7,some Cka7,some Cka147,some Cka147,some Cka147]
def Ckl1338 : AL := [some Cka121,some Cka34,some Cka34,some Cka6,some Cka6,some Cka7,some Cka7,some Cka7,some Cka147,some Cka147,some Cka147]
def Ckl1339 : AL := [some Cka121,some Cka34,some Cka34,some Cka6,some Cka6,some Cka96,some Cka7,some Cka7,some Cka147,some Cka147,some Cka147]
def Ckl1340 : AL := [some Cka121,some Cka34,some Cka34,some Cka6,some Cka34,some Cka34,some Cka34,some Cka240,some Cka147,some Cka147,some Cka147]
def Ckl1341 : AL := [some Cka121,some Cka34,some Cka34,some Cka6,some Cka34,some Cka34,some Cka34,some Cka59,none,none,none]
def Ckl1342 : AL := [some Cka121,some Cka34,some Cka34,some Cka6,some Cka6,some Cka34,some Cka34,some Cka59,none,none,none]
def CNC202_0 : List ND := [(0,(Ckl1326,[],[]),597,Ckc24,[1],0),
  (1,(Ckl1326,[Cke7],[]),596,Ckc24,[2],0),
  (3,(Ckl1327,[],[]),595,Ckc24,[3],0),
  (4,(Ckl1327,[Cke7],[]),594,Ckc24,[4],0),
  (6,(Ckl1328,[],[]),593,Ckc24,[5],0),
  (7,(Ckl1328,[Cke7],[]),592,Ckc24,[6],0),
  (9,(Ckl1329,[],[]),591,Ckc24,[7],0),
  (10,(Ckl1329,[Cke7],[]),590,Ckc24,[8],0),
  (12,(Ckl1330,[],[]),588,Ckc37,[10],0),
  (14,(Ckl1331,[Cke386],[]),600,Ckc24,[11],0),
  (14,(Ckl1330,[Cke524],[]),587,Ckc37,[12],0),
  (15,(Ckl1331,[Cke193,Cke386],[]),599,Ckc24,[13],0),
  (15,(Ckl1330,[Cke193,Cke524],[]),586,Ckc37,[14],0),
  (18,(Ckl1331,[Cke203,Cke386],[]),598,Ckc24,[15],0),
  (18,(Ckl1330,[Cke203,Cke524],[]),585,Ckc37,[90,15],0),
  (21,(Ckl1332,[],[]),584,Ckc37,[16],0),
  (22,(Ckl1332,[Cke193],[]),583,Ckc37,[17],0),
  (23,(Ckl1332,[Cke156,Cke193],[]),582,Ckc37,[18],0),
  (24,(Ckl1332,[Cke209,Cke156,Cke193],[]),581,Ckc37,[20],0),
  (26,(Ckl1331,[Cke386,Cke209,Cke156,Cke193],Ckf140),601,Ckc24,[21],197),
  (26,(Ckl1332,[Cke525,Cke209,Cke156,Cke193],[]),580,Ckc37,[21],197),
  (29,(Ckl1332,[Cke244],[]),579,Ckc37,[22],0),
  (31,(Ckl1333,[],[]),578,Ckc37,[23],0),
  (32,(Ckl1333,[Cke193],[]),577,Ckc37,[24],0),
  (33,(Ckl1333,[Cke209,Cke193],[]),576,Ckc37,[25],0),
  (34,(Ckl1333,[Cke156,Cke209,Cke193],[]),575,Ckc37,[27],0),
  (36,(Ckl1334,[Cke386,Cke156,Cke209,Cke193],Ckf140),602,Ckc24,[28],197),
  (36,(Ckl1333,[Cke525,Cke156,Cke209,Cke193],[]),574,Ckc37,[28],197),
  (39,(Ckl1333,[Cke244],[]),573,Ckc37,[29],0),
  (41,(Ckl1335,[],[]),572,Ckc37,[30],0),
  (43,(Ckl1335,[Cke245],[]),571,Ckc37,[31],0),
  (45,(Ckl1335,[Cke526,Cke245],[]),570,Ckc37,[32],0),
  (46,(Ckl1335,[Cke244],[]),569,Ckc37,[33],0),
  (48,(Ckl1336,[],[]),568,Ckc37,[34],0),
  (50,(Ckl1336,[Cke369],[]),567,Ckc37,[35],0),
  (51,(Ckl1336,[Cke6,Cke369],[]),566,Ckc37,[37],0),
  (53,(Ckl1337,[Cke386,Cke6,Cke369],Ckf140),607,Ckc24,[38],0),
  (53,(Ckl1336,[Cke525,Cke6,Cke369],[]),565,Ckc37,[39],0),
  (54,(Ckl1337,[Cke6,Cke369],Ckf140),606,Ckc24,[40],0),
  (54,(Ckl1336,[Cke351,Cke369],[]),564,Ckc37,[41],0),
  (55,(Ckl1337,[Cke6,Cke6,Cke369],Ckf140),605,Ckc24,[42],0),
  (55,(Ckl1336,[Cke6,Cke351,Cke369],[]),563,Ckc37,[43],0),
  (56,(Ckl1337,[Cke7,Cke369],Ckf140),604,Ckc24,[44],0),
  (56,(Ckl1336,[Cke527,Cke369],[]),562,Ckc37,[45],0),
  (57,(Ckl1337,[Cke7],Ckf140),603,Ckc24,[47],0),
  (57,(Ckl1336,[Cke527],[]),561,Ckc37,[47,46],0),
  (60,(Ckl1336,[],[]),539,Ckc37,[88],0),
  (63,(Ckl1336,[],[]),560,Ckc37,[48],0),
  (66,(Ckl1336,[],[]),559,Ckc37,[50],0),
  (68,(Ckl1338,[Cke216],Ckf140),617,Ckc24,[51],0),
  (68,(Ckl1336,[Cke311],[]),558,Ckc37,[52],0),
  (70,(Ckl1338,[Cke526,Cke216],Ckf140),616,Ckc24,[53],0),
  (70,(Ckl1336,[Cke526,Cke311],[]),557,Ckc37,[54],0),
  (72,(Ckl1338,[Cke369,Cke526,Cke216],Ckf140),615,Ckc24,[59,55],0),
  (72,(Ckl1336,[Cke369,Cke526,Cke311],[]),556,Ckc37,[60,56],0),
  (75,(Ckl1338,[Cke216],Ckf140),611,Ckc24,[57],0),
  (75,(Ckl1336,[Cke311],[]),555,Ckc37,[58],0),
  (76,(Ckl1338,[Cke6,Cke216],Ckf140),610,Ckc24,[62],0),
  (76,(Ckl1336,[Cke6,Cke311],[]),554,Ckc37,[64],0),
  (79,(Ckl1338,[Cke216],Ckf140),614,Ckc24,[61],0),
  (79,(Ckl1336,[Cke311],[]),552,Ckc37,[63],0),
  (80,(Ckl1338,[Cke7,Cke216],Ckf140),613,Ckc24,[65],0),
  (80,(Ckl1338,[Cke6,Cke216],Ckf140),609,Ckc24,[66],0),
  (80,(Ckl1336,[Cke7,Cke311],[]),551,Ckc37,[67],0)]
def CNC202_1 : List ND := [(80,(Ckl1336,[Cke6,Cke311],[]),553,Ckc37,[67],0),
  (81,(Ckl1338,[Cke7],Ckf140),612,Ckc24,[68],0),
  (81,(Ckl1338,[Cke6],Ckf140),608,Ckc24,[68],0),
  (81,(Ckl1336,[Cke184],[]),550,Ckc37,[68],0),
  (83,(Ckl1336,[],[]),549,Ckc37,[70],0),
  (85,(Ckl1339,[Cke212],[]),627,Ckc24,[71],0),
  (85,(Ckl1336,[Cke353],[]),548,Ckc37,[72],0),
  (87,(Ckl1339,[Cke245,Cke212],[]),626,Ckc24,[73],0),
  (87,(Ckl1336,[Cke245,Cke353],[]),547,Ckc37,[74],0),
  (89,(Ckl1339,[Cke369,Cke245,Cke212],[]),625,Ckc24,[79,75],0),
  (89,(Ckl1336,[Cke369,Cke245,Cke353],[]),546,Ckc37,[80,76],0),
  (92,(Ckl1339,[Cke212],[]),621,Ckc24,[77],0),
  (92,(Ckl1336,[Cke353],[]),543,Ckc37,[78],0),
  (93,(Ckl1339,[Cke6,Cke212],[]),620,Ckc24,[82],0),
  (93,(Ckl1336,[Cke6,Cke353],[]),542,Ckc37,[84],0),
  (96,(Ckl1339,[Cke212],[]),624,Ckc24,[81],0),
  (96,(Ckl1336,[Cke353],[]),545,Ckc37,[83],0),
  (97,(Ckl1339,[Cke7,Cke212],[]),623,Ckc24,[85],0),
  (97,(Ckl1339,[Cke6,Cke212],[]),619,Ckc24,[86],0),
  (97,(Ckl1336,[Cke7,Cke353],[]),544,Ckc37,[87],0),
  (97,(Ckl1336,[Cke6,Cke353],[]),541,Ckc37,[87],0),
  (98,(Ckl1339,[Cke7],[]),622,Ckc24,[88],0),
  (98,(Ckl1339,[Cke6],[]),618,Ckc24,[88],0),
  (98,(Ckl1336,[Cke184],[]),540,Ckc37,[88],0),
  (100,(Ckl1336,[],[]),538,Ckc37,[89],0),
  (103,(Ckl1340,[],[]),589,Ckc37,[8],0),
  (106,(Ckl1341,[],[]),17,Ckc24,[91],0),
  (108,(Ckl1341,[Cke211],[]),16,Ckc24,[92],0),
  (109,(Ckl1341,[Cke6,Cke211],[]),15,Ckc24,[95,93],0),
  (112,(Ckl1342,[],[]),1,Ckc24,[94],0),
  (113,(Ckl1342,[Cke7],[]),0,Ckc24,[],0),
  (114,(Ckl1341,[],[]),14,Ckc24,[96],0),
  (115,(Ckl1341,[Cke191],[]),13,Ckc24,[97],0),
  (118,(Ckl1341,[],[]),12,Ckc24,[98],0),
  (120,(Ckl1341,[Cke311],[]),11,Ckc24,[99],0),
  (122,(Ckl1341,[Cke211,Cke311],[]),10,Ckc24,[104,100],0),
  (125,(Ckl1341,[],[]),5,Ckc24,[101],0),
  (127,(Ckl1341,[Cke211],[]),4,Ckc24,[102],0),
  (128,(Ckl1341,[Cke6,Cke211],[]),3,Ckc24,[103],0),
  (129,(Ckl1341,[Cke184],[]),2,Ckc24,[],0),
  (130,(Ckl1341,[],[]),9,Ckc24,[105],0),
  (132,(Ckl1341,[Cke311],[]),8,Ckc24,[106],0),
  (134,(Ckl1341,[Cke353,Cke311],[]),7,Ckc24,[107],0),
  (137,(Ckl1341,[Cke184],[]),6,Ckc24,[],0)]
def CNC202 : List (List ND) := [CNC202_0, CNC202_1]
theorem CKC202 : chkS prot SMsC SMC202 [] CNC202 = true := by decide +kernel
-- OneSided$Web.doorsToAdd [(5, 5), (-2147483648, 2147483647), (-2147483648, 2147483647), (0, 0)]
def Ckl1343 : AL := [some Cka50,some Cka34,some Cka34,some Cka7,none,none,none,none,none,none,none]
def Ckl1344 : AL := [some Cka50,some Cka34,some Cka34,some Cka7,some Cka7,none,none,none,none,none,none]
def Ckl1345 : AL := [some Cka50,some Cka34,some Cka34,some Cka7,some Cka7,some Cka7,none,none,none,none,none]
def Ckl1346 : AL := [some Cka50,some Cka34,some Cka34,some Cka7,some Cka7,some Cka7,some Cka7,none,none,none,none]
def Ckl1347 : AL := [some Cka50,some Cka34,some Cka34,some Cka7,some Cka34,some Cka34,some Cka34,some Cka92,none,none,none]
def Ckl1348 : AL := [some Cka50,some Cka34,some Cka34,some Cka7,some Cka7,some Cka7,some Cka7,some Cka7,none,none,none]
def Ckl1349 : AL := [some Cka50,some Cka34,some Cka34,some Cka7,some Cka34,some Cka34,some Cka34,some Cka77,none,none,none]
def Ckl1350 : AL := [some Cka50,some Cka34,some Cka34,some Cka7,some Cka34,some Cka34,some Cka34,some Cka77,some Cka147,none,none]
def Ckl1351 : AL := [some Cka50,some Cka34,some Cka34,some Cka7,some Cka7,some Cka7,some Cka7,some Cka7,some Cka147,none,none]
def Ckl1352 : AL := [some Cka50,some Cka34,some Cka34,some Cka7,some Cka34,some Cka34,some Cka34,some Cka77,some Cka147,some Cka147,none]
def Ckl1353 : AL := [some Cka50,some Cka34,some Cka34,some Cka7,some Cka34,some Cka34,some Cka34,some Cka77,some Cka147,some Cka147,some Cka147]
def Ckl1354 : AL := [some Cka50,some Cka34,some Cka34,some Cka7,some Cka7,some Cka7,some Cka7,some Cka7,some Cka147,some Cka147,some Cka147]
def Ckl1355 : AL := [some Cka50,some Cka34,some Cka34,some Cka7,some Cka6,some Cka7,some Cka7,some Cka7,some Cka147,some Cka147,some Cka147]
def Ckl1356 : AL := [some Cka50,some Cka34,some Cka34,some Cka7,some Cka6,some Cka96,some Cka7,some Cka7,some Cka147,some Cka147,some Cka147]
def Ckl1357 : AL := [some Cka50,some Cka34,some Cka34,some Cka7,some Cka34,some Cka34,some Cka34,some Cka240,some Cka147,some Cka147,some Cka147]
def Ckl1358 : AL := [some Cka50,some Cka34,some Cka34,some Cka7,some Cka34,some Cka34,some Cka34,some Cka59,none,none,none]
def Ckl1359 : AL := [some Cka50,some Cka34,some Cka34,some Cka7,some Cka6,some Cka34,some Cka34,some Cka59,none,none,none]
def CNC203_0 : List ND := [(0,(Ckl1343,[],[]),590,Ckc24,[1],0),
  (1,(Ckl1343,[Cke7],[]),589,Ckc24,[2],0),
  (3,(Ckl1344,[],[]),588,Ckc24,[3],0),
  (4,(Ckl1344,[Cke7],[]),587,Ckc24,[4],0),
  (6,(Ckl1345,[],[]),586,Ckc24,[5],0),
  (7,(Ckl1345,[Cke7],[]),585,Ckc24,[6],0),
  (9,(Ckl1346,[],[]),584,Ckc24,[7],0),
  (10,(Ckl1346,[Cke7],[]),583,Ckc24,[8],0),
  (12,(Ckl1347,[],[]),581,Ckc37,[10],0),
  (14,(Ckl1348,[Cke386],[]),593,Ckc24,[11],0),
  (14,(Ckl1347,[Cke524],[]),580,Ckc37,[12],0),
  (15,(Ckl1348,[Cke53,Cke386],[]),592,Ckc24,[13],0),
  (15,(Ckl1347,[Cke53,Cke524],[]),579,Ckc37,[14],0),
  (18,(Ckl1348,[Cke140,Cke386],[]),591,Ckc24,[15],0),
  (18,(Ckl1347,[Cke140,Cke524],[]),578,Ckc37,[90,15],0),
  (21,(Ckl1349,[],[]),577,Ckc37,[16],0),
  (22,(Ckl1349,[Cke53],[]),576,Ckc37,[17],0),
  (23,(Ckl1349,[Cke156,Cke53],[]),575,Ckc37,[18],0),
  (24,(Ckl1349,[Cke209,Cke156,Cke53],[]),574,Ckc37,[20],0),
  (26,(Ckl1348,[Cke386,Cke209,Cke156,Cke53],Ckf139),594,Ckc24,[21],195),
  (26,(Ckl1349,[Cke525,Cke209,Cke156,Cke53],[]),573,Ckc37,[21],195),
  (29,(Ckl1349,[Cke244],[]),572,Ckc37,[22],0),
  (31,(Ckl1350,[],[]),571,Ckc37,[23],0),
  (32,(Ckl1350,[Cke53],[]),570,Ckc37,[24],0),
  (33,(Ckl1350,[Cke209,Cke53],[]),569,Ckc37,[25],0),
  (34,(Ckl1350,[Cke156,Cke209,Cke53],[]),568,Ckc37,[27],0),
  (36,(Ckl1351,[Cke386,Cke156,Cke209,Cke53],Ckf139),595,Ckc24,[28],195),
  (36,(Ckl1350,[Cke525,Cke156,Cke209,Cke53],[]),567,Ckc37,[28],195),
  (39,(Ckl1350,[Cke244],[]),566,Ckc37,[29],0),
  (41,(Ckl1352,[],[]),565,Ckc37,[30],0),
  (43,(Ckl1352,[Cke245],[]),564,Ckc37,[31],0),
  (45,(Ckl1352,[Cke526,Cke245],[]),563,Ckc37,[32],0),
  (46,(Ckl1352,[Cke244],[]),562,Ckc37,[33],0),
  (48,(Ckl1353,[],[]),561,Ckc37,[34],0),
  (50,(Ckl1353,[Cke369],[]),560,Ckc37,[35],0),
  (51,(Ckl1353,[Cke6,Cke369],[]),559,Ckc37,[37],0),
  (53,(Ckl1354,[Cke386,Cke6,Cke369],Ckf139),600,Ckc24,[38],0),
  (53,(Ckl1353,[Cke525,Cke6,Cke369],[]),558,Ckc37,[39],0),
  (54,(Ckl1354,[Cke6,Cke369],Ckf139),599,Ckc24,[40],0),
  (54,(Ckl1353,[Cke351,Cke369],[]),557,Ckc37,[41],0),
  (55,(Ckl1354,[Cke6,Cke6,Cke369],Ckf139),598,Ckc24,[42],0),
  (55,(Ckl1353,[Cke6,Cke351,Cke369],[]),556,Ckc37,[43],0),
  (56,(Ckl1354,[Cke7,Cke369],Ckf139),597,Ckc24,[44],0),
  (56,(Ckl1353,[Cke527,Cke369],[]),555,Ckc37,[45],0),
  (57,(Ckl1354,[Cke7],Ckf139),596,Ckc24,[47],0),
  (57,(Ckl1353,[Cke527],[]),554,Ckc37,[47,46],0),
  (60,(Ckl1353,[],[]),532,Ckc37,[88],0),
  (63,(Ckl1353,[],[]),553,Ckc37,[48],0),
  (66,(Ckl1353,[],[]),552,Ckc37,[50],0),
  (68,(Ckl1355,[Cke216],Ckf139),610,Ckc24,[51],0),
  (68,(Ckl1353,[Cke311],[]),551,Ckc37,[52],0),
  (70,(Ckl1355,[Cke526,Cke216],Ckf139),609,Ckc24,[53],0),
  (70,(Ckl1353,[Cke526,Cke311],[]),550,Ckc37,[54],0),
  (72,(Ckl1355,[Cke369,Cke526,Cke216],Ckf139),608,Ckc24,[59,55],0),
  (72,(Ckl1353,[Cke369,Cke526,Cke311],[]),549,Ckc37,[60,56],0),
  (75,(Ckl1355,[Cke216],Ckf139),604,Ckc24,[57],0),
  (75,(Ckl1353,[Cke311],[]),548,Ckc37,[58],0),
  (76,(Ckl1355,[Cke6,Cke216],Ckf139),603,Ckc24,[62],0),
  (76,(Ckl1353,[Cke6,Cke311],[]),547,Ckc37,[64],0),
  (79,(Ckl1355,[Cke216],Ckf139),607,Ckc24,[61],0),
  (79,(Ckl1353,[Cke311],[]),545,Ckc37,[63],0),
  (80,(Ckl1355,[Cke7,Cke216],Ckf139),606,Ckc24,[65],0),
  (80,(Ckl1355,[Cke6,Cke216],Ckf139),602,Ckc24,[66],0),
  (80,(Ckl1353,[Cke7,Cke311],[]),544,Ckc37,[67],0)]
def CNC203_1 : List ND := [(80,(Ckl1353,[Cke6,Cke311],[]),546,Ckc37,[67],0),
  (81,(Ckl1355,[Cke7],Ckf139),605,Ckc24,[68],0),
  (81,(Ckl1355,[Cke6],Ckf139),601,Ckc24,[68],0),
  (81,(Ckl1353,[Cke184],[]),543,Ckc37,[68],0),
  (83,(Ckl1353,[],[]),542,Ckc37,[70],0),
  (85,(Ckl1356,[Cke212],[]),620,Ckc24,[71],0),
  (85,(Ckl1353,[Cke353],[]),541,Ckc37,[72],0),
  (87,(Ckl1356,[Cke245,Cke212],[]),619,Ckc24,[73],0),
  (87,(Ckl1353,[Cke245,Cke353],[]),540,Ckc37,[74],0),
  (89,(Ckl1356,[Cke369,Cke245,Cke212],[]),618,Ckc24,[79,75],0),
  (89,(Ckl1353,[Cke369,Cke245,Cke353],[]),539,Ckc37,[80,76],0),
  (92,(Ckl1356,[Cke212],[]),614,Ckc24,[77],0),
  (92,(Ckl1353,[Cke353],[]),536,Ckc37,[78],0),
  (93,(Ckl1356,[Cke6,Cke212],[]),613,Ckc24,[82],0),
  (93,(Ckl1353,[Cke6,Cke353],[]),535,Ckc37,[84],0),
  (96,(Ckl1356,[Cke212],[]),617,Ckc24,[81],0),
  (96,(Ckl1353,[Cke353],[]),538,Ckc37,[83],0),
  (97,(Ckl1356,[Cke7,Cke212],[]),616,Ckc24,[85],0),
  (97,(Ckl1356,[Cke6,Cke212],[]),612,Ckc24,[86],0),
  (97,(Ckl1353,[Cke7,Cke353],[]),537,Ckc37,[87],0),
  (97,(Ckl1353,[Cke6,Cke353],[]),534,Ckc37,[87],0),
  (98,(Ckl1356,[Cke7],[]),615,Ckc24,[88],0),
  (98,(Ckl1356,[Cke6],[]),611,Ckc24,[88],0),
  (98,(Ckl1353,[Cke184],[]),533,Ckc37,[88],0),
  (100,(Ckl1353,[],[]),531,Ckc37,[89],0),
  (103,(Ckl1357,[],[]),582,Ckc37,[8],0),
  (106,(Ckl1358,[],[]),10,Ckc24,[91],0),
  (108,(Ckl1358,[Cke211],[]),9,Ckc24,[92],0),
  (109,(Ckl1358,[Cke6,Cke211],[]),8,Ckc24,[95,93],0),
  (112,(Ckl1359,[],[]),1,Ckc24,[94],0),
  (113,(Ckl1359,[Cke7],[]),0,Ckc24,[],0),
  (114,(Ckl1358,[],[]),7,Ckc24,[96],0),
  (115,(Ckl1358,[Cke74],[]),6,Ckc24,[97],0),
  (130,(Ckl1358,[],[]),5,Ckc24,[98],0),
  (132,(Ckl1358,[Cke311],[]),4,Ckc24,[99],0),
  (134,(Ckl1358,[Cke353,Cke311],[]),3,Ckc24,[100],0),
  (137,(Ckl1358,[Cke184],[]),2,Ckc24,[],0)]
def CNC203 : List (List ND) := [CNC203_0, CNC203_1]
theorem CKC203 : chkS prot SMsC SMC203 [] CNC203 = true := by decide +kernel
-- OneSided$Web.doorsToAdd [(32, 32), (-2147483648, 2147483647), (-2147483648, 2147483647), (0, 0)]
def Ckl1360 : AL := [some Cka121,some Cka34,some Cka34,some Cka7,none,none,none,none,none,none,none]
def Ckl1361 : AL := [some Cka121,some Cka34,some Cka34,some Cka7,some Cka7,none,none,none,none,none,none]
def Ckl1362 : AL := [some Cka121,some Cka34,some Cka34,some Cka7,some Cka7,some Cka7,none,none,none,none,none]
def Ckl1363 : AL := [some Cka121,some Cka34,some Cka34,some Cka7,some Cka7,some Cka7,some Cka7,none,none,none,none]
def Ckl1364 : AL := [some Cka121,some Cka34,some Cka34,some Cka7,some Cka34,some Cka34,some Cka34,some Cka92,none,none,none]
def Ckl1365 : AL := [some Cka121,some Cka34,some Cka34,some Cka7,some Cka7,some Cka7,some Cka7,some Cka7,none,none,none]
def Ckl1366 : AL := [some Cka121,some Cka34,some Cka34,some Cka7,some Cka34,some Cka34,some Cka34,some Cka77,none,none,none]
def Ckl1367 : AL := [some Cka121,some Cka34,some Cka34,some Cka7,some Cka34,some Cka34,some Cka34,some Cka77,some Cka147,none,none]
def Ckl1368 : AL := [some Cka121,some Cka34,some Cka34,some Cka7,some Cka7,some Cka7,some Cka7,some Cka7,some Cka147,none,none]
def Ckl1369 : AL := [some Cka121,some Cka34,some Cka34,some Cka7,some Cka34,some Cka34,some Cka34,some Cka77,some Cka147,some Cka147,none]
def Ckl1370 : AL := [some Cka121,some Cka34,some Cka34,some Cka7,some Cka34,some Cka34,some Cka34,some Cka77,some Cka147,some Cka147,some Cka147]
def Ckl1371 : AL := [some Cka121,some Cka34,some Cka34,some Cka7,some Cka7,some Cka7,some Cka7,some Cka7,some Cka147,some Cka147,some Cka147]
def Ckl1372 : AL := [some Cka121,some Cka34,some Cka34,some Cka7,some Cka6,some Cka7,some Cka7,some Cka7,some Cka147,some Cka147,some Cka147]
def Ckl1373 : AL := [some Cka121,some Cka34,some Cka34,some Cka7,some Cka6,some Cka96,some Cka7,some Cka7,some Cka147,some Cka147,some Cka147]
def Ckl1374 : AL := [some Cka121,some Cka34,some Cka34,some Cka7,some Cka34,some Cka34,some Cka34,some Cka240,some Cka147,some Cka147,some Cka147]
def Ckl1375 : AL := [some Cka121,some Cka34,some Cka34,some Cka7,some Cka34,some Cka34,some Cka34,some Cka59,none,none,none]
def Ckl1376 : AL := [some Cka121,some Cka34,some Cka34,some Cka7,some Cka6,some Cka34,some Cka34,some Cka59,none,none,none]
def CNC204_0 : List ND := [(0,(Ckl1360,[],[]),590,Ckc24,[1],0),
  (1,(Ckl1360,[Cke7],[]),589,Ckc24,[2],0),
  (3,(Ckl1361,[],[]),588,Ckc24,[3],0),
  (4,(Ckl1361,[Cke7],[]),587,Ckc24,[4],0),
  (6,(Ckl1362,[],[]),586,Ckc24,[5],0),
  (7,(Ckl1362,[Cke7],[]),585,Ckc24,[6],0),
  (9,(Ckl1363,[],[]),584,Ckc24,[7],0),
  (10,(Ckl1363,[Cke7],[]),583,Ckc24,[8],0),
  (12,(Ckl1364,[],[]),581,Ckc37,[10],0),
  (14,(Ckl1365,[Cke386],[]),593,Ckc24,[11],0),
  (14,(Ckl1364,[Cke524],[]),580,Ckc37,[12],0),
  (15,(Ckl1365,[Cke193,Cke386],[]),592,Ckc24,[13],0),
  (15,(Ckl1364,[Cke193,Cke524],[]),579,Ckc37,[14],0),
  (18,(Ckl1365,[Cke203,Cke386],[]),591,Ckc24,[15],0),
  (18,(Ckl1364,[Cke203,Cke524],[]),578,Ckc37,[90,15],0),
  (21,(Ckl1366,[],[]),577,Ckc37,[16],0),
  (22,(Ckl1366,[Cke193],[]),576,Ckc37,[17],0),
  (23,(Ckl1366,[Cke156,Cke193],[]),575,Ckc37,[18],0),
  (24,(Ckl1366,[Cke209,Cke156,Cke193],[]),574,Ckc37,[20],0),
  (26,(Ckl1365,[Cke386,Cke209,Cke156,Cke193],Ckf140),594,Ckc24,[21],197),
  (26,(Ckl1366,[Cke525,Cke209,Cke156,Cke193],[]),573,Ckc37,[21],197),
  (29,(Ckl1366,[Cke244],[]),572,Ckc37,[22],0),
  (31,(Ckl1367,[],[]),571,Ckc37,[23],0),
  (32,(Ckl1367,[Cke193],[]),570,Ckc37,[24],0),
  (33,(Ckl1367,[Cke209,Cke193],[]),569,Ckc37,[25],0),
  (34,(Ckl1367,[Cke156,Cke209,Cke193],[]),568,Ckc37,[27],0),
  (36,(Ckl1368,[Cke386,Cke156,Cke209,Cke193],Ckf140),595,Ckc24,[28],197),
  (36,(Ckl1367,[Cke525,Cke156,Cke209,Cke193],[]),567,Ckc37,[28],197),
  (39,(Ckl1367,[Cke244],[]),566,Ckc37,[29],0),
  (41,(Ckl1369,[],[]),565,Ckc37,[30],0),
  (43,(Ckl1369,[Cke245],[]),564,Ckc37,[31],0),
  (45,(Ckl1369,[Cke526,Cke245],[]),563,Ckc37,[32],0),
  (46,(Ckl1369,[Cke244],[]),562,Ckc37,[33],0),
  (48,(Ckl1370,[],[]),561,Ckc37,[34],0),
  (50,(Ckl1370,[Cke369],[]),560,Ckc37,[35],0),
  (51,(Ckl1370,[Cke6,Cke369],[]),559,Ckc37,[37],0),
  (53,(Ckl1371,[Cke386,Cke6,Cke369],Ckf140),600,Ckc24,[38],0),
  (53,(Ckl1370,[Cke525,Cke6,Cke369],[]),558,Ckc37,[39],0),
  (54,(Ckl1371,[Cke6,Cke369],Ckf140),599,Ckc24,[40],0),
  (54,(Ckl1370,[Cke351,Cke369],[]),557,Ckc37,[41],0),
  (55,(Ckl1371,[Cke6,Cke6,Cke369],Ckf140),598,Ckc24,[42],0),
  (55,(Ckl1370,[Cke6,Cke351,Cke369],[]),556,Ckc37,[43],0),
  (56,(Ckl1371,[Cke7,Cke369],Ckf140),597,Ckc24,[44],0),
  (56,(Ckl1370,[Cke527,Cke369],[]),555,Ckc37,[45],0),
  (57,(Ckl1371,[Cke7],Ckf140),596,Ckc24,[47],0),
  (57,(Ckl1370,[Cke527],[]),554,Ckc37,[47,46],0),
  (60,(Ckl1370,[],[]),532,Ckc37,[88],0),
  (63,(Ckl1370,[],[]),553,Ckc37,[48],0),
  (66,(Ckl1370,[],[]),552,Ckc37,[50],0),
  (68,(Ckl1372,[Cke216],Ckf140),610,Ckc24,[51],0),
  (68,(Ckl1370,[Cke311],[]),551,Ckc37,[52],0),
  (70,(Ckl1372,[Cke526,Cke216],Ckf140),609,Ckc24,[53],0),
  (70,(Ckl1370,[Cke526,Cke311],[]),550,Ckc37,[54],0),
  (72,(Ckl1372,[Cke369,Cke526,Cke216],Ckf140),608,Ckc24,[59,55],0),
  (72,(Ckl1370,[Cke369,Cke526,Cke311],[]),549,Ckc37,[60,56],0),
  (75,(Ckl1372,[Cke216],Ckf140),604,Ckc24,[57],0),
  (75,(Ckl1370,[Cke311],[]),548,Ckc37,[58],0),
  (76,(Ckl1372,[Cke6,Cke216],Ckf140),603,Ckc24,[62],0),
  (76,(Ckl1370,[Cke6,Cke311],[]),547,Ckc37,[64],0),
  (79,(Ckl1372,[Cke216],Ckf140),607,Ckc24,[61],0),
  (79,(Ckl1370,[Cke311],[]),545,Ckc37,[63],0),
  (80,(Ckl1372,[Cke7,Cke216],Ckf140),606,Ckc24,[65],0),
  (80,(Ckl1372,[Cke6,Cke216],Ckf140),602,Ckc24,[66],0),
  (80,(Ckl1370,[Cke7,Cke311],[]),544,Ckc37,[67],0)]
def CNC204_1 : List ND := [(80,(Ckl1370,[Cke6,Cke311],[]),546,Ckc37,[67],0),
  (81,(Ckl1372,[Cke7],Ckf140),605,Ckc24,[68],0),
  (81,(Ckl1372,[Cke6],Ckf140),601,Ckc24,[68],0),
  (81,(Ckl1370,[Cke184],[]),543,Ckc37,[68],0),
  (83,(Ckl1370,[],[]),542,Ckc37,[70],0),
  (85,(Ckl1373,[Cke212],[]),620,Ckc24,[71],0),
  (85,(Ckl1370,[Cke353],[]),541,Ckc37,[72],0),
  (87,(Ckl1373,[Cke245,Cke212],[]),619,Ckc24,[73],0),
  (87,(Ckl1370,[Cke245,Cke353],[]),540,Ckc37,[74],0),
  (89,(Ckl1373,[Cke369,Cke245,Cke212],[]),618,Ckc24,[79,75],0),
  (89,(Ckl1370,[Cke369,Cke245,Cke353],[]),539,Ckc37,[80,76],0),
  (92,(Ckl1373,[Cke212],[]),614,Ckc24,[77],0),
  (92,(Ckl1370,[Cke353],[]),536,Ckc37,[78],0),
  (93,(Ckl1373,[Cke6,Cke212],[]),613,Ckc24,[82],0),
  (93,(Ckl1370,[Cke6,Cke353],[]),535,Ckc37,[84],0),
  (96,(Ckl1373,[Cke212],[]),617,Ckc24,[81],0),
  (96,(Ckl1370,[Cke353],[]),538,Ckc37,[83],0),
  (97,(Ckl1373,[Cke7,Cke212],[]),616,Ckc24,[85],0),
  (97,(Ckl1373,[Cke6,Cke212],[]),612,Ckc24,[86],0),
  (97,(Ckl1370,[Cke7,Cke353],[]),537,Ckc37,[87],0),
  (97,(Ckl1370,[Cke6,Cke353],[]),534,Ckc37,[87],0),
  (98,(Ckl1373,[Cke7],[]),615,Ckc24,[88],0),
  (98,(Ckl1373,[Cke6],[]),611,Ckc24,[88],0),
  (98,(Ckl1370,[Cke184],[]),533,Ckc37,[88],0),
  (100,(Ckl1370,[],[]),531,Ckc37,[89],0),
  (103,(Ckl1374,[],[]),582,Ckc37,[8],0),
  (106,(Ckl1375,[],[]),10,Ckc24,[91],0),
  (108,(Ckl1375,[Cke211],[]),9,Ckc24,[92],0),
  (109,(Ckl1375,[Cke6,Cke211],[]),8,Ckc24,[95,93],0),
  (112,(Ckl1376,[],[]),1,Ckc24,[94],0),
  (113,(Ckl1376,[Cke7],[]),0,Ckc24,[],0),
  (114,(Ckl1375,[],[]),7,Ckc24,[96],0),
  (115,(Ckl1375,[Cke74],[]),6,Ckc24,[97],0),
  (130,(Ckl1375,[],[]),5,Ckc24,[98],0),
  (132,(Ckl1375,[Cke311],[]),4,Ckc24,[99],0),
  (134,(Ckl1375,[Cke353,Cke311],[]),3,Ckc24,[100],0),
  (137,(Ckl1375,[Cke184],[]),2,Ckc24,[],0)]
def CNC204 : List (List ND) := [CNC204_0, CNC204_1]
theorem CKC204 : chkS prot SMsC SMC204 [] CNC204 = true := by decide +kernel
-- OneSided.add [(1, 1), (-2147483648, 2147483647), (-2147483648, 2147483647)]
def Ckl1377 : AL := [some Cka161,some Cka32,some Cka84]
def Ckl1378 : AL := [some Cka161,some Cka134,some Cka84]
def CNC205_0 : List ND := [(0,(Ckl771,[],[]),42,Ckc1,[1],0),
  (1,(Ckl771,[Cke288],[]),41,Ckc1,[2],0),
  (2,(Ckl771,[Cke156,Cke288],[]),40,Ckc1,[3],0),
  (3,(Ckl771,[Cke209,Cke156,Cke288],[]),39,Ckc1,[5,4],141),
  (6,(Ckl771,[Cke7],[]),2,Ckc1,[6],0),
  (6,(Ckl775,[Cke6],[]),38,Ckc1,[8],0),
  (9,(Ckl771,[],[]),1,Ckc1,[7],0),
  (10,(Ckl771,[Cke51],[]),0,Ckc1,[],0),
  (11,(Ckl775,[],[]),37,Ckc1,[9],0),
  (12,(Ckl775,[Cke288],[]),36,Ckc1,[11,10],0),
  (15,(Ckl775,[Cke290],[]),35,Ckc1,[12],0),
  (15,(Ckl775,[Cke291],[]),19,Ckc1,[13],0),
  (16,(Ckl775,[Cke288,Cke290],[]),34,Ckc1,[14],0),
  (16,(Ckl775,[Cke288,Cke291],[]),18,Ckc1,[15],0),
  (17,(Ckl775,[Cke248,Cke288,Cke290],[]),33,Ckc1,[16],0),
  (17,(Ckl775,[Cke248,Cke288,Cke291],[]),17,Ckc1,[17],0),
  (18,(Ckl775,[Cke249,Cke248,Cke288,Cke290],[]),32,Ckc1,[18],193),
  (18,(Ckl775,[Cke249,Cke248,Cke288,Cke291],[]),16,Ckc1,[19],193),
  (21,(Ckl775,[Cke184,Cke290],[]),31,Ckc1,[20],0),
  (21,(Ckl775,[Cke184,Cke291],[]),15,Ckc1,[21],0),
  (22,(Ckl775,[Cke288,Cke184,Cke290],[]),30,Ckc1,[22],0),
  (22,(Ckl775,[Cke288,Cke184,Cke291],[]),14,Ckc1,[23],0),
  (23,(Ckl775,[Cke248,Cke288,Cke184,Cke290],[]),29,Ckc1,[24],0),
  (23,(Ckl775,[Cke248,Cke288,Cke184,Cke291],[]),13,Ckc1,[25],0),
  (24,(Ckl775,[Cke249,Cke248,Cke288,Cke184,Cke290],[]),28,Ckc1,[26],194),
  (24,(Ckl775,[Cke249,Cke248,Cke288,Cke184,Cke291],[]),12,Ckc1,[27],194),
  (27,(Ckl775,[Cke184,Cke184,Cke290],[]),27,Ckc1,[28],0),
  (27,(Ckl775,[Cke184,Cke184,Cke291],[]),11,Ckc1,[29],0),
  (28,(Ckl775,[Cke248,Cke184,Cke184,Cke290],[]),26,Ckc1,[30],0),
  (28,(Ckl775,[Cke248,Cke184,Cke184,Cke291],[]),10,Ckc1,[31],0),
  (29,(Ckl775,[Cke36,Cke248,Cke184,Cke184,Cke290],[]),25,Ckc1,[36,32],0),
  (29,(Ckl775,[Cke36,Cke248,Cke184,Cke184,Cke291],[]),9,Ckc1,[37,33],0),
  (32,(Ckl1377,[Cke184,Cke184,Cke290],[]),24,Ckc1,[34],0),
  (32,(Ckl1377,[Cke184,Cke184,Cke291],[]),8,Ckc1,[35],0),
  (33,(Ckl1377,[Cke6,Cke184,Cke184,Cke290],[]),23,Ckc1,[40],0),
  (33,(Ckl1377,[Cke6,Cke184,Cke184,Cke291],[]),7,Ckc1,[41],0),
  (36,(Ckl1378,[Cke184,Cke184,Cke290],[]),21,Ckc1,[38],0),
  (36,(Ckl1378,[Cke184,Cke184,Cke291],[]),5,Ckc1,[39],0),
  (37,(Ckl1378,[Cke7,Cke184,Cke184,Cke290],[]),20,Ckc1,[42],204),
  (37,(Ckl1378,[Cke7,Cke184,Cke184,Cke291],[]),4,Ckc1,[42],203),
  (37,(Ckl1377,[Cke6,Cke184,Cke184,Cke290],[]),22,Ckc1,[42],202),
  (37,(Ckl1377,[Cke6,Cke184,Cke184,Cke291],[]),6,Ckc1,[42],201),
  (40,(Ckl775,[Cke184],[]),3,Ckc1,[],0)]
def CNC205 : List (List ND) := [CNC205_0]
theorem CKC205 : chkS prot SMsC SMC205 [] CNC205 = true := by decide +kernel
-- OneSided$Web.isOneRing [(5, 5), (-2147483648, 2147483647), (-2147483648, 2147483647)]
def Ckl1379 : AL := [some Cka50,some Cka34,some Cka34,none]
def Ckl1380 : AL := [some Cka50,some Cka34,some Cka34,some Cka242]
def Cke528 : SE := (Cka242,(1,3,0,0,0))
def CNC206_0 : List ND := [(0,(Ckl1379,[],[]),25,Ckc7,[1],0),
  (1,(Ckl1379,[Cke6],[]),24,Ckc7,[2],0),
  (2,(Ckl1379,[Cke53,Cke6],[]),23,Ckc7,[3],0),
  (5,(Ckl1379,[Cke140,Cke6],[]),22,Ckc7,[4],0),
  (6,(Ckl1379,[Cke521],[]),21,Ckc7,[5],0),
  (7,(Ckl1379,[Cke6,Cke521],[]),20,Ckc7,[6],0),
  (8,(Ckl1379,[Cke522],[]),19,Ckc7,[7],0),
  (9,(Ckl1380,[],[]),18,Ckc7,[8],0),
  (10,(Ckl1380,[Cke53],[]),17,Ckc7,[9],0),
  (11,(Ckl1380,[Cke156,Cke53],[]),16,Ckc7,[10],0),
  (12,(Ckl1380,[Cke209,Cke156,Cke53],[]),15,Ckc7,[11],0),
  (13,(Ckl1380,[Cke7,Cke209,Cke156,Cke53],[]),14,Ckc7,[12],195),
  (16,(Ckl1380,[Cke244],[]),13,Ckc7,[13],0),
  (17,(Ckl1380,[Cke528,Cke244],[]),12,Ckc7,[23,14],0),
  (20,(Ckl1380,[],[]),11,Ckc7,[15],0),
  (21,(Ckl1380,[Cke53],[]),10,Ckc7,[16],0),
  (22,(Ckl1380,[Cke209,Cke53],[]),9,Ckc7,[17],0),
  (23,(Ckl1380,[Cke156,Cke209,Cke53],[]),8,Ckc7,[18],0),
  (24,(Ckl1380,[Cke7,Cke156,Cke209,Cke53],[]),7,Ckc7,[19],195),
  (27,(Ckl1380,[Cke244],[]),6,Ckc7,[20],0),
  (28,(Ckl1380,[Cke528,Cke244],[]),5,Ckc7,[23,21],0),
  (31,(Ckl1380,[],[]),4,Ckc7,[22],0),
  (32,(Ckl1380,[Cke6],[]),3,Ckc7,[25],0),
  (35,(Ckl1380,[],[]),1,Ckc7,[24],0),
  (36,(Ckl1380,[Cke7],[]),0,Ckc7,[],1),
  (36,(Ckl1380,[Cke6],[]),2,Ckc7,[],0)]
def CNC206 : List (List ND) := [CNC206_0]
theorem CKC206 : chkS prot SMsC SMC206 [] CNC206 = true := by decide +kernel
-- java/lang/Integer.bitCount [(-2147483648, 2147483647)]
def Cka244 : AV := (0,1431655765,1431655765,0)
def Cke529 : SE := (Cka244,pv0)
def Cka245 : AV := (0,0,1431655765,1)
def Cke530 : SE := (Cka245,pv0)
def Cka246 : AV := (0,858993459,858993459,0)
def Cke531 : SE := (Cka246,pv0)
def Cka247 : AV := (0,0,858993459,1)
def Cke532 : SE := (Cka247,pv0)
def Cka248 : AV := (0,0,1717986918,1)
def Cke533 : SE := (Cka248,pv0)
def Ckl1381 : AL := [some Cka248]
def Cke534 : SE := (Cka248,(1,0,0,0,0))
def Cka249 : AV := (0,252645135,252645135,0)
def Cke535 : SE := (Cka249,pv0)
def Cka250 : AV := (0,0,252645135,1)
def Cke536 : SE := (Cka250,pv0)
def Ckl1382 : AL := [some Cka250]
def Cke537 : SE := (Cka250,(1,0,0,0,0))
def Cka251 : AV := (0,63,63,0)
def Cke538 : SE := (Cka251,pv0)
def Cka252 : AV := (0,0,63,1)
def Cke539 : SE := (Cka252,pv0)
def CNC207_0 : List ND := [(0,(Ckl13,[],[]),41,Ckc5,[1],0),
  (1,(Ckl13,[Cke37],[]),40,Ckc5,[2],0),
  (2,(Ckl13,[Cke37,Cke37],[]),39,Ckc5,[3],0),
  (3,(Ckl13,[Cke6,Cke37,Cke37],[]),38,Ckc5,[4],0),
  (4,(Ckl13,[Cke184,Cke37],[]),37,Ckc5,[5],0),
  (7,(Ckl13,[Cke529,Cke184,Cke37],[]),36,Ckc5,[6],0),
  (8,(Ckl13,[Cke530,Cke37],[]),35,Ckc5,[7],0),
  (9,(Ckl13,[Cke184],[]),34,Ckc5,[8],0),
  (10,(Ckl13,[],[]),33,Ckc5,[9],0),
  (11,(Ckl13,[Cke37],[]),32,Ckc5,[10],0),
  (14,(Ckl13,[Cke531,Cke37],[]),31,Ckc5,[11],0),
  (15,(Ckl13,[Cke532],[]),30,Ckc5,[12],0),
  (16,(Ckl13,[Cke37,Cke532],[]),29,Ckc5,[13],0),
  (17,(Ckl13,[Cke22,Cke37,Cke532],[]),28,Ckc5,[14],0),
  (18,(Ckl13,[Cke184,Cke532],[]),27,Ckc5,[15],0),
  (21,(Ckl13,[Cke531,Cke184,Cke532],[]),26,Ckc5,[16],0),
  (22,(Ckl13,[Cke532,Cke532],[]),25,Ckc5,[17],0),
  (23,(Ckl13,[Cke533],[]),24,Ckc5,[18],0),
  (24,(Ckl1381,[],[]),23,Ckc5,[19],0),
  (25,(Ckl1381,[Cke534],[]),22,Ckc5,[20],0),
  (26,(Ckl1381,[Cke534,Cke534],[]),21,Ckc5,[21],0),
  (27,(Ckl1381,[Cke35,Cke534,Cke534],[]),20,Ckc5,[22],0),
  (28,(Ckl1381,[Cke184,Cke534],[]),19,Ckc5,[23],0),
  (29,(Ckl1381,[Cke184],[]),18,Ckc5,[24],0),
  (32,(Ckl1381,[Cke535,Cke184],[]),17,Ckc5,[25],0),
  (33,(Ckl1381,[Cke536],[]),16,Ckc5,[26],0),
  (34,(Ckl1382,[],[]),15,Ckc5,[27],0),
  (35,(Ckl1382,[Cke537],[]),14,Ckc5,[28],0),
  (36,(Ckl1382,[Cke537,Cke537],[]),13,Ckc5,[29],0),
  (38,(Ckl1382,[Cke21,Cke537,Cke537],[]),12,Ckc5,[30],0),
  (39,(Ckl1382,[Cke184,Cke537],[]),11,Ckc5,[31],0),
  (40,(Ckl1382,[Cke184],[]),10,Ckc5,[32],0),
  (41,(Ckl13,[],[]),9,Ckc5,[33],0),
  (42,(Ckl13,[Cke37],[]),8,Ckc5,[34],0),
  (43,(Ckl13,[Cke37,Cke37],[]),7,Ckc5,[35],0),
  (45,(Ckl13,[Cke55,Cke37,Cke37],[]),6,Ckc5,[36],0),
  (46,(Ckl13,[Cke184,Cke37],[]),5,Ckc5,[37],0),
  (47,(Ckl13,[Cke184],[]),4,Ckc5,[38],0),
  (48,(Ckl13,[],[]),3,Ckc5,[39],0),
  (49,(Ckl13,[Cke37],[]),2,Ckc5,[40],0),
  (51,(Ckl13,[Cke538,Cke37],[]),1,Ckc5,[41],0),
  (52,(Ckl13,[Cke539],[]),0,Ckc5,[],0)]
def CNC207 : List (List ND) := [CNC207_0]
theorem CKC207 : chkS prot SMsC SMC207 [] CNC207 = true := by decide +kernel
-- OneSided$Web.doorsToTurn [(5, 5), (0, 3), (0, 23), (-2147483648, 2147483647)]
def Ckl1383 : AL := [some Cka50,some Cka80,some Cka84,some Cka34,none,none,none,none,none,none,none,none,none,none]
def Ckc38 : List Int := [0,0,0,0,0,0,0,0,0,0,0,0,0,0]
def Ckl1384 : AL := [some Cka50,some Cka80,some Cka84,some Cka34,some Cka34,none,none,none,none,none,none,none,none,none]
def Ckl1385 : AL := [some Cka50,some Cka80,some Cka84,some Cka34,some Cka34,some Cka34,none,none,none,none,none,none,none,none]
def Ckl1386 : AL := [some Cka50,some Cka80,some Cka84,some Cka34,some Cka34,some Cka34,some Cka7,none,none,none,none,none,none,none]
def Ckl1387 : AL := [some Cka50,some Cka80,some Cka84,some Cka34,some Cka34,some Cka34,some Cka7,some Cka7,none,none,none,none,none,none]
def Ckl1388 : AL := [some Cka50,some Cka80,some Cka84,some Cka34,some Cka34,some Cka34,some Cka34,some Cka34,some Cka61,none,none,none,none,none]
def Ckc39 : List Int := [0,0,0,0,0,0,0,0,-44,0,0,0,0,0]
def Ckl1389 : AL := [some Cka50,some Cka80,some Cka84,some Cka34,some Cka34,some Cka34,some Cka7,some Cka7,some Cka7,none,none,none,none,none]
def Cke540 : SE := (Cka61,(1,8,0,0,0))
def Ckl1390 : AL := [some Cka50,some Cka80,some Cka84,some Cka34,some Cka34,some Cka34,some Cka34,some Cka34,some Cka62,none,none,none,none,none]
def Ckl1391 : AL := [some Cka50,some Cka80,some Cka84,some Cka34,some Cka34,some Cka34,some Cka34,some Cka34,some Cka62,some Cka147,none,none,none,none]
def Ckl1392 : AL := [some Cka50,some Cka80,some Cka84,some Cka34,some Cka34,some Cka34,some Cka7,some Cka7,some Cka7,some Cka147,none,none,none,none]
def Ckl1393 : AL := [some Cka50,some Cka80,some Cka84,some Cka34,some Cka34,some Cka34,some Cka96,some Cka7,some Cka7,some Cka147,none,none,none,none]
def Ckl1394 : AL := [some Cka50,some Cka80,some Cka84,some Cka34,some Cka34,some Cka34,some Cka34,some Cka34,some Cka63,some Cka147,none,none,none,none]
def Ckl1395 : AL := [some Cka50,some Cka80,some Cka84,some Cka34,some Cka34,some Cka34,some Cka34,some Cka34,some Cka34,none,none,none,none,none]
def Ckl1396 : AL := [some Cka50,some Cka80,some Cka84,some Cka34,some Cka34,some Cka34,some Cka34,some Cka34,some Cka34,some Cka49,none,none,none,none]
def Ckl1397 : AL := [some Cka50,some Cka80,some Cka84,some Cka34,some Cka34,some Cka34,some Cka34,some Cka34,some Cka34,some Cka49,some Cka213,none,none,none]
def Cka253 : AV := (0,-1,16383,1)
def Cka254 : AV := (0,0,16384,1)
def Ckl1398 : AL := [some Cka50,some Cka80,some Cka84,some Cka34,some Cka34,some Cka34,some Cka34,some Cka34,some Cka34,some Cka253,some Cka252,some Cka254,none,none]
def Ckc40 : List Int := [0,0,0,0,0,0,0,0,0,0,0,-48,0,0]
def Ckl1399 : AL := [some Cka50,some Cka80,some Cka84,some Cka34,some Cka34,some Cka34,some Cka34,some Cka34,some Cka34,some Cka49,some Cka213,some Cka7,none,none]
def Cke541 : SE := (Cka7,(1,11,0,0,0))
def Cke542 : SE := (Cka254,(1,11,0,0,0))
def Cka255 : AV := (0,1,16384,1)
def Cke543 : SE := (Cka255,pv0)
def Cka256 : AV := (0,0,16383,1)
def Ckl1400 : AL := [some Cka50,some Cka80,some Cka84,some Cka34,some Cka34,some Cka34,some Cka34,some Cka34,some Cka34,some Cka253,some Cka252,some Cka256,none,none]
def Cke544 : SE := (Cka256,(1,11,0,0,0))
def Cke545 : SE := (Cka256,pv0)
def Cke546 : SE := (Cka252,(1,10,0,0,0))
def Cka257 : AV := (0,1,63,1)
def Ckl1401 : AL := [some Cka50,some Cka80,some Cka84,some Cka34,some Cka34,some Cka34,some Cka34,some Cka34,some Cka34,some Cka253,some Cka257,some Cka256,none,none]
def Ckl1402 : AL := [some Cka50,some Cka80,some Cka84,some Cka34,some Cka34,some Cka34,some Cka34,some Cka34,some Cka34,some Cka253,some Cka257,some Cka256,some Cka34,none]
def Ckl1403 : AL := [some Cka50,some Cka80,some Cka84,some Cka34,some Cka34,some Cka34,some Cka34,some Cka34,some Cka34,some Cka49,some Cka213,some Cka7,some Cka34,none]
def Ckl1404 : AL := [some Cka50,some Cka80,some Cka84,some Cka34,some Cka34,some Cka34,some Cka34,some Cka34,some Cka34,some Cka253,some Cka257,some Cka256,some Cka34,some Cka34]
def Cke547 : SE := (Cka34,(1,12,0,0,0))
def Cke548 : SE := (Cka34,(1,13,0,0,0))
def Ckl1405 : AL := [some Cka50,some Cka80,some Cka84,some Cka34,some Cka34,some Cka34,some Cka34,some Cka34,some Cka34,some Cka49,some Cka213,some Cka7,some Cka34,some Cka34]
def Ckl1406 : AL := [some Cka50,some Cka80,some Cka84,some Cka34,some Cka34,some Cka34,some Cka34,some Cka34,some Cka34,some Cka256,some Cka257,some Cka256,some Cka34,some Cka34]
def Ckl1407 : AL := [some Cka50,some Cka80,some Cka84,some Cka34,some Cka34,some Cka34,some Cka34,some Cka34,some Cka34,some Cka7,some Cka213,some Cka7,some Cka34,some Cka34]
def Ckl1408 : AL := [some Cka50,some Cka80,some Cka84,some Cka34,some Cka34,some Cka34,some Cka34,some Cka34,some Cka34,some Cka253,some Cka252,some Cka255,none,none]
def Cke549 : SE := (Cka253,(1,9,0,0,0))
def CNC208_0 : List ND := [(0,(Ckl1383,[],[]),787199,Ckc38,[1],0),
  (1,(Ckl1383,[Cke53],[]),787198,Ckc38,[2],0),
  (2,(Ckl1383,[Cke248,Cke53],[]),787197,Ckc38,[3],0),
  (3,(Ckl1383,[Cke249,Cke248,Cke53],[]),787196,Ckc38,[4],0),
  (4,(Ckl1383,[Cke210,Cke249,Cke248,Cke53],[]),787195,Ckc38,[5],142),
  (7,(Ckl1383,[Cke184],[]),787194,Ckc38,[6],0),
  (9,(Ckl1384,[],[]),787193,Ckc38,[7],0),
  (10,(Ckl1384,[Cke53],[]),787192,Ckc38,[8],0),
  (11,(Ckl1384,[Cke248,Cke53],[]),787191,Ckc38,[9],0),
  (12,(Ckl1384,[Cke249,Cke248,Cke53],[]),787190,Ckc38,[10],0),
  (13,(Ckl1384,[Cke210,Cke249,Cke248,Cke53],[]),787189,Ckc38,[11],143),
  (16,(Ckl1384,[Cke184],[]),787188,Ckc38,[12],0),
  (18,(Ckl1385,[],[]),787187,Ckc38,[13],0),
  (19,(Ckl1385,[Cke7],[]),787186,Ckc38,[14],0),
  (21,(Ckl1386,[],[]),787185,Ckc38,[15],0),
  (22,(Ckl1386,[Cke7],[]),787184,Ckc38,[16],0),
  (24,(Ckl1387,[],[]),787183,Ckc38,[17],0),
  (25,(Ckl1387,[Cke7],[]),787182,Ckc38,[18],0),
  (27,(Ckl1388,[],[]),787180,Ckc39,[20],0),
  (29,(Ckl1389,[Cke241],[]),787202,Ckc38,[21],0),
  (29,(Ckl1388,[Cke540],[]),787179,Ckc39,[22],0),
  (30,(Ckl1389,[Cke53,Cke241],[]),787201,Ckc38,[23],0),
  (30,(Ckl1388,[Cke53,Cke540],[]),787178,Ckc39,[24],0),
  (33,(Ckl1389,[Cke76,Cke241],[]),787200,Ckc38,[96,25],0),
  (33,(Ckl1388,[Cke76,Cke540],[]),787177,Ckc39,[96,25],0),
  (36,(Ckl1390,[],Ckf31),787176,Ckc39,[26],0),
  (37,(Ckl1390,[Cke53],Ckf31),787175,Ckc39,[28],0),
  (39,(Ckl1389,[Cke241,Cke53],Ckf31),787211,Ckc38,[29],0),
  (39,(Ckl1390,[Cke495,Cke53],Ckf31),787174,Ckc39,[30],0),
  (40,(Ckl1389,[Cke248,Cke241,Cke53],Ckf31),787210,Ckc38,[31],0),
  (40,(Ckl1390,[Cke248,Cke495,Cke53],Ckf31),787173,Ckc39,[32],0),
  (41,(Ckl1389,[Cke249,Cke248,Cke241,Cke53],Ckf31),787209,Ckc38,[33],0),
  (41,(Ckl1390,[Cke249,Cke248,Cke495,Cke53],Ckf31),787172,Ckc39,[34],0),
  (42,(Ckl1389,[Cke53,Cke249,Cke248,Cke241,Cke53],Ckf31),787208,Ckc38,[35],0),
  (42,(Ckl1390,[Cke53,Cke249,Cke248,Cke495,Cke53],Ckf31),787171,Ckc39,[36],0),
  (45,(Ckl1389,[Cke77,Cke249,Cke248,Cke241,Cke53],Ckf31),787207,Ckc38,[37],0),
  (45,(Ckl1390,[Cke77,Cke249,Cke248,Cke495,Cke53],Ckf31),787170,Ckc39,[38],0),
  (47,(Ckl1389,[Cke241,Cke77,Cke249,Cke248,Cke241,Cke53],Ckf31),787206,Ckc38,[39],0),
  (47,(Ckl1390,[Cke495,Cke77,Cke249,Cke248,Cke495,Cke53],Ckf31),787169,Ckc39,[40],0),
  (48,(Ckl1389,[Cke250,Cke249,Cke248,Cke241,Cke53],Ckf31),787205,Ckc38,[41],0),
  (48,(Ckl1390,[Cke79,Cke249,Cke248,Cke495,Cke53],Ckf31),787168,Ckc39,[42],0),
  (51,(Ckl1389,[Cke97,Cke249,Cke248,Cke241,Cke53],Ckf31),787204,Ckc38,[43],0),
  (51,(Ckl1390,[Cke97,Cke249,Cke248,Cke495,Cke53],Ckf31),787167,Ckc39,[44],0),
  (52,(Ckl1389,[Cke6,Cke97,Cke249,Cke248,Cke241,Cke53],Ckf31),787203,Ckc38,[45],122),
  (52,(Ckl1390,[Cke6,Cke97,Cke249,Cke248,Cke495,Cke53],Ckf31),787166,Ckc39,[45],122),
  (55,(Ckl1390,[Cke244],Ckf31),787165,Ckc39,[46],0),
  (57,(Ckl1391,[],Ckf31),787164,Ckc39,[48],0),
  (59,(Ckl1392,[Cke212],Ckf31),787222,Ckc38,[49],0),
  (59,(Ckl1391,[Cke353],Ckf31),787163,Ckc39,[50],0),
  (61,(Ckl1392,[Cke526,Cke212],Ckf31),787221,Ckc38,[51],0),
  (61,(Ckl1391,[Cke526,Cke353],Ckf31),787162,Ckc39,[52],0),
  (62,(Ckl1392,[Cke6,Cke526,Cke212],Ckf31),787220,Ckc38,[53],0),
  (62,(Ckl1391,[Cke6,Cke526,Cke353],Ckf31),787161,Ckc39,[54],0),
  (63,(Ckl1392,[Cke242,Cke212],Ckf31),787219,Ckc38,[63,55],0),
  (63,(Ckl1391,[Cke242,Cke353],Ckf31),787160,Ckc39,[64,56],0),
  (66,(Ckl1392,[Cke212],Ckf31),787216,Ckc38,[57],0),
  (66,(Ckl1391,[Cke353],Ckf31),787159,Ckc39,[58],0),
  (67,(Ckl1392,[Cke6,Cke212],Ckf31),787215,Ckc38,[59],0),
  (67,(Ckl1391,[Cke6,Cke353],Ckf31),787158,Ckc39,[60],0),
  (69,(Ckl1392,[Cke241,Cke6,Cke212],Ckf31),787214,Ckc38,[61],0),
  (69,(Ckl1391,[Cke495,Cke6,Cke353],Ckf31),787157,Ckc39,[62],0),
  (70,(Ckl1392,[Cke6,Cke212],Ckf31),787213,Ckc38,[66],0),
  (70,(Ckl1391,[Cke252,Cke353],Ckf31),787156,Ckc39,[68],0),
  (73,(Ckl1392,[Cke212],Ckf31),787218,Ckc38,[65],0)]
def CNC208_1 : List ND := [(73,(Ckl1391,[Cke353],Ckf31),787154,Ckc39,[67],0),
  (74,(Ckl1392,[Cke7,Cke212],Ckf31),787217,Ckc38,[69],0),
  (74,(Ckl1392,[Cke6,Cke212],Ckf31),787212,Ckc38,[69],0),
  (74,(Ckl1391,[Cke7,Cke353],Ckf31),787153,Ckc39,[69],0),
  (74,(Ckl1391,[Cke252,Cke353],Ckf31),787155,Ckc39,[69],0),
  (75,(Ckl1391,[Cke184],Ckf31),787152,Ckc39,[70],0),
  (77,(Ckl1391,[],Ckf31),787151,Ckc39,[72],0),
  (79,(Ckl1393,[Cke386],Ckf31),787233,Ckc38,[73],0),
  (79,(Ckl1391,[Cke215],Ckf31),787150,Ckc39,[74],0),
  (81,(Ckl1393,[Cke526,Cke386],Ckf31),787232,Ckc38,[75],0),
  (81,(Ckl1391,[Cke526,Cke215],Ckf31),787149,Ckc39,[76],0),
  (82,(Ckl1393,[Cke22,Cke526,Cke386],Ckf31),787231,Ckc38,[77],0),
  (82,(Ckl1391,[Cke22,Cke526,Cke215],Ckf31),787148,Ckc39,[78],0),
  (83,(Ckl1393,[Cke253,Cke386],Ckf31),787230,Ckc38,[87,79],0),
  (83,(Ckl1391,[Cke253,Cke215],Ckf31),787147,Ckc39,[88,80],0),
  (86,(Ckl1393,[Cke386],Ckf31),787229,Ckc38,[81],0),
  (86,(Ckl1391,[Cke215],Ckf31),787146,Ckc39,[82],0),
  (87,(Ckl1393,[Cke6,Cke386],Ckf31),787228,Ckc38,[83],0),
  (87,(Ckl1391,[Cke6,Cke215],Ckf31),787145,Ckc39,[84],0),
  (89,(Ckl1393,[Cke241,Cke6,Cke386],Ckf31),787227,Ckc38,[85],0),
  (89,(Ckl1391,[Cke495,Cke6,Cke215],Ckf31),787144,Ckc39,[86],0),
  (90,(Ckl1393,[Cke6,Cke386],Ckf31),787226,Ckc38,[90],0),
  (90,(Ckl1391,[Cke252,Cke215],Ckf31),787143,Ckc39,[92],0),
  (93,(Ckl1393,[Cke386],Ckf31),787224,Ckc38,[89],0),
  (93,(Ckl1391,[Cke215],Ckf31),787141,Ckc39,[91],0),
  (94,(Ckl1393,[Cke7,Cke386],Ckf31),787223,Ckc38,[93],0),
  (94,(Ckl1393,[Cke6,Cke386],Ckf31),787225,Ckc38,[93],0),
  (94,(Ckl1391,[Cke7,Cke215],Ckf31),787140,Ckc39,[93],0),
  (94,(Ckl1391,[Cke252,Cke215],Ckf31),787142,Ckc39,[93],0),
  (95,(Ckl1391,[Cke184],Ckf31),787139,Ckc39,[94],0),
  (97,(Ckl1391,[],Ckf31),787138,Ckc39,[95],0),
  (100,(Ckl1394,[],Ckf31),787181,Ckc39,[18],0),
  (103,(Ckl1388,[],[]),786521,Ckc38,[97],0),
  (105,(Ckl1388,[Cke353],[]),786520,Ckc38,[98],0),
  (106,(Ckl1388,[Cke210,Cke353],[]),786519,Ckc38,[99],0),
  (107,(Ckl1388,[Cke51,Cke210,Cke353],[]),786518,Ckc38,[100],0),
  (108,(Ckl1388,[Cke184,Cke353],[]),786517,Ckc38,[101],0),
  (109,(Ckl1388,[Cke184],[]),786516,Ckc38,[102],0),
  (111,(Ckl1388,[],[]),786515,Ckc38,[103],0),
  (113,(Ckl1388,[Cke215],[]),786514,Ckc38,[104],0),
  (114,(Ckl1388,[Cke210,Cke215],[]),786513,Ckc38,[105],0),
  (115,(Ckl1388,[Cke51,Cke210,Cke215],[]),786512,Ckc38,[106],0),
  (116,(Ckl1388,[Cke184,Cke215],[]),786511,Ckc38,[107],0),
  (117,(Ckl1388,[Cke184],[]),786510,Ckc38,[108],0),
  (119,(Ckl1388,[],[]),786509,Ckc38,[109],0),
  (120,(Ckl1388,[Cke53],[]),786508,Ckc38,[110],0),
  (122,(Ckl1388,[Cke211,Cke53],[]),786507,Ckc38,[111],0),
  (124,(Ckl1388,[Cke353,Cke211,Cke53],[]),786506,Ckc38,[112],0),
  (125,(Ckl1388,[Cke184,Cke53],[]),786505,Ckc38,[113],0),
  (127,(Ckl1388,[Cke311,Cke184,Cke53],[]),786504,Ckc38,[114],0),
  (129,(Ckl1388,[Cke215,Cke311,Cke184,Cke53],[]),786503,Ckc38,[115],0),
  (130,(Ckl1388,[Cke184,Cke184,Cke53],[]),786502,Ckc38,[117,116],206),
  (133,(Ckl1388,[Cke7],[]),2,Ckc38,[118],0),
  (133,(Ckl1388,[Cke6],[]),786501,Ckc38,[120],0),
  (136,(Ckl1388,[],[]),1,Ckc38,[119],0),
  (137,(Ckl1388,[Cke51],[]),0,Ckc38,[],0),
  (138,(Ckl1388,[],[]),786500,Ckc38,[121],0),
  (140,(Ckl1388,[Cke211],[]),786499,Ckc38,[122],0),
  (142,(Ckl1388,[Cke353,Cke211],[]),786498,Ckc38,[123],0),
  (143,(Ckl1388,[Cke184],[]),786497,Ckc38,[124],0),
  (145,(Ckl1388,[Cke311,Cke184],[]),786496,Ckc38,[125],0),
  (147,(Ckl1388,[Cke215,Cke311,Cke184],[]),786495,Ckc38,[126],0),
  (148,(Ckl1388,[Cke184,Cke184],[]),786494,Ckc38,[127],0),
  (149,(Ckl1388,[Cke184],[]),786493,Ckc38,[128],0)]
def CNC208_2 : List ND := [(150,(Ckl1388,[Cke51,Cke184],[]),786492,Ckc38,[129],0),
  (151,(Ckl1388,[Cke184],[]),786491,Ckc38,[130],0),
  (153,(Ckl1395,[],[]),786490,Ckc38,[131],0),
  (154,(Ckl1395,[Cke51],[]),786489,Ckc38,[132],0),
  (156,(Ckl1396,[],[]),786488,Ckc38,[133],0),
  (158,(Ckl1396,[Cke498],[]),786487,Ckc38,[134],0),
  (160,(Ckl1397,[],[]),786486,Ckc38,[135],0),
  (161,(Ckl1397,[Cke7],[]),786485,Ckc38,[136],0),
  (163,(Ckl1398,[],[]),786483,Ckc40,[138],0),
  (165,(Ckl1399,[Cke541],[]),787238,Ckc38,[139],0),
  (165,(Ckl1398,[Cke542],[]),786482,Ckc40,[140],0),
  (166,(Ckl1399,[Cke6,Cke541],[]),787237,Ckc38,[141],0),
  (166,(Ckl1398,[Cke6,Cke542],[]),786481,Ckc40,[142],0),
  (167,(Ckl1399,[Cke53,Cke6,Cke541],[]),787236,Ckc38,[143],0),
  (167,(Ckl1398,[Cke53,Cke6,Cke542],[]),786480,Ckc40,[144],0),
  (170,(Ckl1399,[Cke76,Cke6,Cke541],[]),787235,Ckc38,[145],0),
  (170,(Ckl1398,[Cke76,Cke6,Cke542],[]),786479,Ckc40,[146],0),
  (171,(Ckl1399,[Cke543,Cke541],[]),787234,Ckc38,[147],0),
  (171,(Ckl1398,[Cke543,Cke542],[]),786478,Ckc40,[203,147],0),
  (174,(Ckl1400,[],[]),786477,Ckc40,[149],0),
  (176,(Ckl1399,[Cke541],[]),787241,Ckc38,[150],0),
  (176,(Ckl1400,[Cke544],[]),786476,Ckc40,[151],0),
  (178,(Ckl1399,[Cke401,Cke541],[]),787240,Ckc38,[152],0),
  (178,(Ckl1400,[Cke401,Cke544],[]),786475,Ckc40,[153],0),
  (179,(Ckl1399,[Cke7],[]),787239,Ckc38,[154],0),
  (179,(Ckl1400,[Cke545],[]),786474,Ckc40,[201,154],0),
  (182,(Ckl1400,[],[]),786473,Ckc40,[156],0),
  (184,(Ckl1399,[Cke541],[]),787242,Ckc38,[157],207),
  (184,(Ckl1400,[Cke544],[]),786472,Ckc40,[157],207),
  (187,(Ckl1400,[Cke539],[]),786471,Ckc40,[158],0),
  (189,(Ckl1400,[Cke546,Cke539],[]),786470,Ckc40,[160,159],0),
  (192,(Ckl1400,[],[]),786469,Ckc40,[201],0),
  (195,(Ckl1401,[],[]),786468,Ckc40,[161],0),
  (197,(Ckl1401,[Cke211],[]),786467,Ckc40,[163],0),
  (199,(Ckl1399,[Cke541,Cke211],[]),787244,Ckc38,[165],0),
  (199,(Ckl1401,[Cke544,Cke211],[]),786466,Ckc40,[164],0),
  (200,(Ckl1401,[Cke51,Cke544,Cke211],[]),786465,Ckc40,[166],0),
  (200,(Ckl1399,[Cke51,Cke541,Cke211],[]),787243,Ckc38,[166],0),
  (201,(Ckl1401,[Cke184,Cke211],[]),786464,Ckc40,[167],0),
  (202,(Ckl1401,[Cke184],[]),786463,Ckc40,[168],0),
  (204,(Ckl1401,[Cke353,Cke184],[]),786462,Ckc40,[170],0),
  (206,(Ckl1399,[Cke541,Cke353,Cke184],[]),787246,Ckc38,[171],0),
  (206,(Ckl1401,[Cke544,Cke353,Cke184],[]),786461,Ckc40,[172],0),
  (207,(Ckl1399,[Cke7,Cke184],[]),787245,Ckc38,[173],0),
  (207,(Ckl1401,[Cke545,Cke184],[]),786460,Ckc40,[173],0),
  (208,(Ckl1401,[Cke184],[]),786459,Ckc40,[174],0),
  (210,(Ckl1402,[],[]),786458,Ckc40,[175],0),
  (212,(Ckl1402,[Cke311],[]),786457,Ckc40,[177],0),
  (214,(Ckl1403,[Cke541,Cke311],[]),787248,Ckc38,[179],0),
  (214,(Ckl1402,[Cke544,Cke311],[]),786456,Ckc40,[178],0),
  (215,(Ckl1402,[Cke51,Cke544,Cke311],[]),786455,Ckc40,[180],0),
  (215,(Ckl1403,[Cke51,Cke541,Cke311],[]),787247,Ckc38,[180],0),
  (216,(Ckl1402,[Cke184,Cke311],[]),786454,Ckc40,[181],0),
  (217,(Ckl1402,[Cke184],[]),786453,Ckc40,[182],0),
  (219,(Ckl1402,[Cke215,Cke184],[]),786452,Ckc40,[184],0),
  (221,(Ckl1403,[Cke541,Cke215,Cke184],[]),787250,Ckc38,[185],0),
  (221,(Ckl1402,[Cke544,Cke215,Cke184],[]),786451,Ckc40,[186],0),
  (222,(Ckl1403,[Cke7,Cke184],[]),787249,Ckc38,[187],0),
  (222,(Ckl1402,[Cke545,Cke184],[]),786450,Ckc40,[187],0),
  (223,(Ckl1402,[Cke184],[]),786449,Ckc40,[188],0),
  (225,(Ckl1404,[],[]),786448,Ckc40,[189],0),
  (226,(Ckl1404,[Cke53],[]),786447,Ckc40,[190],0),
  (228,(Ckl1404,[Cke547,Cke53],[]),786446,Ckc40,[191],0),
  (230,(Ckl1404,[Cke548,Cke547,Cke53],[]),786445,Ckc40,[193,192],206)]
def CNC208_3 : List ND := [(233,(Ckl1404,[Cke7],[]),786444,Ckc40,[201],0),
  (233,(Ckl1404,[Cke6],[]),786443,Ckc40,[194],0),
  (236,(Ckl1404,[],[]),786442,Ckc40,[196],0),
  (238,(Ckl1405,[Cke541],[]),787251,Ckc38,[197],0),
  (238,(Ckl1404,[Cke544],[]),786441,Ckc40,[197],0),
  (240,(Ckl1406,[],[]),786440,Ckc40,[199],0),
  (242,(Ckl1407,[Cke541],[]),787252,Ckc38,[200],207),
  (242,(Ckl1406,[Cke544],[]),786439,Ckc40,[200],207),
  (245,(Ckl1406,[Cke539],[]),786438,Ckc40,[201],0),
  (247,(Ckl1400,[],[]),786437,Ckc40,[202],0),
  (250,(Ckl1408,[],[]),786484,Ckc40,[136],0),
  (253,(Ckl1408,[],[]),4,Ckc38,[204],0),
  (255,(Ckl1408,[Cke549],[]),3,Ckc38,[],0)]
def CNC208 : List (List ND) := [CNC208_0, CNC208_1, CNC208_2, CNC208_3]
theorem CKC208 : chkS prot SMsC SMC208 [] CNC208 = true := by decide +kernel
