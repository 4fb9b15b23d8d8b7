/-! LM, by program: certificates 4 -/
-- OneSided.errand
def ka170 : AV := (0,-1,2147483647,1)
def kl404 : AL := [some ka72,some ka69,some ka170,none]
def kl405 : AL := [some ka72,some ka69,some ka170,some ka110]
def ke340 : SE := (ka110,(1,3,0,0,0))
def kl406 : AL := [some ka72,some ka69,some ka170,some ka42]
def kl407 : AL := [some ka72,some ka69,some ka170,some ka40]
def ke341 : SE := (ka170,(1,2,0,0,0))
def kl408 : AL := [some ka72,some ka69,some ka42,some ka40]
def kl409 : AL := [some ka72,some ka69,some ka39,some ka40]
def kl410 : AL := [some ka72,some ka69,some ka1,some ka40]
def kl411 : AL := [some ka72,some ka69,some ka1,some ka58]
def kl412 : AL := [some ka72,some ka69,some ka102,some ka40]
def ke342 : SE := (ka102,(1,2,0,0,0))
def ke343 : SE := (ka40,(2,77,0,0,0))
def kl413 : AL := [some ka72,some ka69,some ka58,some ka40]
def kf63 : FA := [(77,0,ka58)]
def ke344 : SE := (ka58,(1,2,0,0,0))
def ke345 : SE := (ka43,pv0)
def kf64 : FA := [(77,0,ka40)]
def ka171 : AV := (0,-2,13,1)
def ke346 : SE := (ka171,pv0)
def CN202_0 : List ND := [(0,(kl108,[],[]),82,kc10,[1],0),
  (1,(kl108,[ke103],[]),81,kc10,[2],0),
  (2,(kl108,[ke1,ke103],[]),80,kc10,[4,3],146),
  (5,(kl108,[ke6],[]),79,kc10,[8],0),
  (5,(kl133,[ke5],[]),78,kc10,[5],0),
  (8,(kl133,[],[]),77,kc10,[6],0),
  (9,(kl133,[ke2],[]),76,kc10,[7],0),
  (10,(kl133,[ke41,ke2],[]),75,kc10,[10,8],0),
  (13,(kl108,[],[]),74,kc10,[9],0),
  (15,(kl108,[ke171],[]),73,kc10,[],0),
  (16,(kl404,[],[]),72,kc10,[11],0),
  (17,(kl404,[ke103],[]),71,kc10,[12],0),
  (20,(kl404,[ke190],[]),70,kc10,[13],0),
  (21,(kl404,[ke103,ke190],[]),69,kc10,[15,14],0),
  (24,(kl404,[ke105,ke190],[]),63,kc10,[16],0),
  (24,(kl404,[ke106,ke190],[]),68,kc10,[17],0),
  (25,(kl404,[ke103,ke105,ke190],[]),62,kc10,[18],0),
  (25,(kl404,[ke103,ke106,ke190],[]),67,kc10,[19],0),
  (28,(kl404,[ke114,ke105,ke190],[]),61,kc10,[20],0),
  (28,(kl404,[ke114,ke106,ke190],[]),66,kc10,[21],0),
  (31,(kl404,[ke102,ke105,ke190],[]),60,kc10,[22],0),
  (31,(kl404,[ke102,ke106,ke190],[]),65,kc10,[23],0),
  (32,(kl404,[ke130,ke102,ke105,ke190],[]),59,kc10,[24],185),
  (32,(kl404,[ke130,ke102,ke106,ke190],[]),64,kc10,[24],184),
  (35,(kl404,[ke192],[]),58,kc10,[25],0),
  (36,(kl405,[],[]),57,kc10,[26],0),
  (37,(kl405,[ke340],[]),56,kc10,[27],0),
  (38,(kl405,[ke41,ke340],[]),55,kc10,[30,28],0),
  (41,(kl406,[],[]),1,kc10,[29],0),
  (43,(kl406,[ke171],[]),0,kc10,[],0),
  (44,(kl407,[],[]),54,kc10,[31],0),
  (45,(kl407,[ke341],[]),53,kc10,[32],0),
  (46,(kl407,[ke41,ke341],[]),52,kc10,[35,33],0),
  (49,(kl408,[],[]),3,kc10,[34],0),
  (50,(kl408,[ke182],[]),2,kc10,[],0),
  (51,(kl409,[],[]),51,kc10,[36],0),
  (52,(kl409,[ke136],[]),50,kc10,[54,37],0),
  (55,(kl410,[],[]),49,kc10,[38],0),
  (56,(kl410,[ke182],[]),48,kc10,[39],0),
  (57,(kl410,[ke103,ke182],[]),47,kc10,[41,40],0),
  (60,(kl410,[ke105,ke182],[]),46,kc10,[42],0),
  (60,(kl410,[ke106,ke182],[]),42,kc10,[43],0),
  (63,(kl410,[ke129,ke182],[]),45,kc10,[44],0),
  (63,(kl410,[ke91,ke182],[]),41,kc10,[45],0),
  (64,(kl410,[ke130,ke129,ke182],[]),44,kc10,[47],0),
  (64,(kl410,[ke130,ke91,ke182],[]),40,kc10,[46],0),
  (65,(kl410,[ke94,ke182],[]),39,kc10,[48],0),
  (65,(kl410,[ke131,ke182],[]),43,kc10,[48],0),
  (68,(kl410,[ke39,ke182],[]),38,kc10,[51,49],0),
  (71,(kl410,[],[]),35,kc10,[50],0),
  (72,(kl410,[ke5],[]),34,kc10,[53],0),
  (75,(kl411,[],[]),37,kc10,[52],0),
  (76,(kl411,[ke6],[]),36,kc10,[],0),
  (76,(kl410,[ke5],[]),33,kc10,[],0),
  (77,(kl412,[],[]),32,kc10,[55],0),
  (78,(kl412,[ke103],[]),31,kc10,[56],0),
  (81,(kl412,[ke190],[]),30,kc10,[57],0),
  (82,(kl412,[ke103,ke190],[]),29,kc10,[59,58],0),
  (85,(kl412,[ke105,ke190],[]),28,kc10,[60],0),
  (85,(kl412,[ke106,ke190],[]),23,kc10,[61],0),
  (86,(kl412,[ke103,ke105,ke190],[]),27,kc10,[62],0),
  (86,(kl412,[ke103,ke106,ke190],[]),22,kc10,[63],0),
  (89,(kl412,[ke114,ke105,ke190],[]),26,kc10,[64],0),
  (89,(kl412,[ke114,ke106,ke190],[]),21,kc10,[65],0)]
def CN202_1 : List ND := [(92,(kl412,[ke102,ke105,ke190],[]),25,kc10,[66],0),
  (92,(kl412,[ke102,ke106,ke190],[]),20,kc10,[67],0),
  (93,(kl412,[ke130,ke102,ke105,ke190],[]),24,kc10,[68],201),
  (93,(kl412,[ke130,ke102,ke106,ke190],[]),19,kc10,[68],193),
  (96,(kl412,[],[]),18,kc10,[69],0),
  (97,(kl412,[ke342],[]),17,kc10,[70],0),
  (98,(kl412,[ke103,ke342],[]),16,kc10,[71],0),
  (101,(kl412,[ke190,ke342],[]),15,kc10,[72],0),
  (104,(kl412,[ke343,ke342],[]),14,kc10,[81,73],0),
  (107,(kl413,[],kf63),12,kc10,[74],0),
  (108,(kl413,[ke103],kf63),11,kc10,[75],0),
  (111,(kl413,[ke190],kf63),10,kc10,[76],0),
  (114,(kl413,[ke300],kf63),9,kc10,[77],0),
  (115,(kl413,[ke344,ke300],kf63),8,kc10,[78],0),
  (116,(kl413,[ke5,ke344,ke300],kf63),7,kc10,[79],0),
  (117,(kl413,[ke37,ke300],kf63),6,kc10,[80],0),
  (118,(kl413,[ke345],kf63),5,kc10,[82],0),
  (121,(kl412,[],kf64),13,kc10,[82],0),
  (123,(kl412,[ke346],[]),4,kc10,[],0)]
def CN202 : List (List ND) := [CN202_0, CN202_1]
theorem CK202 : chkS prot SMs SM202 [] CN202 = true := by decide +kernel
-- OneSided$Plans.roomsByTheEnd
def kl414 : AL := [some ka109,some ka12,some ka62,some ka69,none,none,none]
def kl415 : AL := [some ka109,some ka12,some ka62,some ka69,some ka34,none,none]
def kl416 : AL := [some ka109,some ka12,some ka62,some ka69,some ka34,some ka108,none]
def kl417 : AL := [some ka109,some ka12,some ka62,some ka69,some ka34,some ka47,some ka89]
def kc28 : List Int := [0,0,0,0,0,0,-14]
def ke347 : SE := (ka89,(1,6,0,0,0))
def kl418 : AL := [some ka109,some ka12,some ka62,some ka69,some ka34,some ka47,some ka38]
def ke348 : SE := (ka47,(1,5,0,0,0))
def ke349 : SE := (ka34,(1,4,0,0,0))
def kl419 : AL := [some ka109,some ka12,some ka62,some ka69,some ka34,some ka47,some ka58]
def kl420 : AL := [some ka109,some ka12,some ka62,some ka69,some ka34,some ka47,some ka90]
def CN203_0 : List ND := [(0,(kl414,[],[]),382,kc6,[1],0),
  (1,(kl414,[ke88],[]),381,kc6,[2],0),
  (4,(kl414,[ke91],[]),380,kc6,[3],0),
  (5,(kl414,[ke185,ke91],[]),379,kc6,[4],0),
  (6,(kl414,[ke94],[]),378,kc6,[5],0),
  (9,(kl414,[ke34],[]),377,kc6,[6],0),
  (11,(kl415,[],[]),376,kc6,[7],0),
  (12,(kl415,[ke5],[]),375,kc6,[8],0),
  (13,(kl415,[ke184,ke5],[]),374,kc6,[9],0),
  (16,(kl415,[ke95,ke5],[]),373,kc6,[10],0),
  (17,(kl415,[ke185,ke95,ke5],[]),372,kc6,[11],0),
  (18,(kl415,[ke52,ke5],[]),371,kc6,[12],0),
  (19,(kl415,[ke181],[]),370,kc6,[13],0),
  (21,(kl416,[],[]),369,kc6,[14],0),
  (22,(kl416,[ke184],[]),368,kc6,[15],0),
  (23,(kl416,[ke185,ke184],[]),367,kc6,[16],176),
  (26,(kl416,[ke176],[]),366,kc6,[17],0),
  (28,(kl417,[],[]),364,kc28,[18],0),
  (30,(kl417,[ke347],[]),363,kc28,[19],0),
  (32,(kl417,[ke70,ke347],[]),362,kc28,[31,20],0),
  (35,(kl418,[],[]),361,kc28,[21],0),
  (37,(kl418,[ke348],[]),360,kc28,[22],0),
  (38,(kl418,[ke88,ke348],[]),359,kc28,[23],0),
  (39,(kl418,[ke184,ke88,ke348],[]),358,kc28,[24],0),
  (41,(kl418,[ke349,ke184,ke88,ke348],[]),357,kc28,[25],0),
  (43,(kl418,[ke238,ke349,ke184,ke88,ke348],[]),356,kc28,[26],0),
  (45,(kl418,[ke348,ke238,ke349,ke184,ke88,ke348],[]),355,kc28,[27],178),
  (48,(kl418,[ke54,ke348],[]),354,kc28,[28],0),
  (49,(kl418,[ke54],[]),353,kc28,[29],0),
  (51,(kl418,[],[]),352,kc28,[30],0),
  (54,(kl419,[],[]),365,kc28,[17],0),
  (57,(kl420,[],[]),1,kc6,[32],0),
  (59,(kl420,[ke348],[]),0,kc6,[],0)]
def CN203 : List (List ND) := [CN203_0]
theorem CK203 : chkS prot SMs SM203 [] CN203 = true := by decide +kernel
-- OneSided.reach
def CN205_0 : List ND := [(0,(kl105,[],[]),22,kc13,[1],0),
  (1,(kl105,[ke103],[]),21,kc13,[2],0),
  (2,(kl105,[ke1,ke103],[]),20,kc13,[4,3],146),
  (5,(kl105,[ke6],[]),19,kc13,[20],0),
  (5,(kl132,[ke5],[]),16,kc13,[5],0),
  (8,(kl132,[],[]),15,kc13,[6],0),
  (9,(kl132,[ke103],[]),14,kc13,[7],0),
  (12,(kl132,[ke190],[]),13,kc13,[8],0),
  (13,(kl132,[ke103,ke190],[]),12,kc13,[10,9],0),
  (16,(kl132,[ke105,ke190],[]),6,kc13,[11],0),
  (16,(kl132,[ke106,ke190],[]),11,kc13,[12],0),
  (17,(kl132,[ke103,ke105,ke190],[]),5,kc13,[13],0),
  (17,(kl132,[ke103,ke106,ke190],[]),10,kc13,[14],0),
  (20,(kl132,[ke114,ke105,ke190],[]),4,kc13,[15],0),
  (20,(kl132,[ke114,ke106,ke190],[]),9,kc13,[16],0),
  (23,(kl132,[ke102,ke105,ke190],[]),3,kc13,[17],0),
  (23,(kl132,[ke102,ke106,ke190],[]),8,kc13,[18],0),
  (24,(kl132,[ke130,ke102,ke105,ke190],[]),2,kc13,[19],204),
  (24,(kl132,[ke130,ke102,ke106,ke190],[]),7,kc13,[19],203),
  (27,(kl132,[ke54],[]),1,kc13,[22],0),
  (30,(kl105,[],[]),18,kc13,[21],0),
  (31,(kl105,[ke41],[]),17,kc13,[],0),
  (31,(kl132,[ke54],[]),0,kc13,[],0)]
def CN205 : List (List ND) := [CN205_0]
theorem CK205 : chkS prot SMs SM205 [] CN205 = true := by decide +kernel
-- OneSided.stuck
def kl421 : AL := [some ka72,some ka47,some ka65]
def kc29 : List Int := [0,0,-30]
def kl422 : AL := [some ka72,some ka1,some ka1]
def ke350 : SE := (ka65,(1,2,0,0,0))
def kl423 : AL := [some ka72,some ka47,some ka69]
def ke351 : SE := (ka47,(1,1,0,0,0))
def kl424 : AL := [some ka72,some ka47,some ka63]
def CN206_0 : List ND := [(0,(kl91,[],[]),215,kc1,[1],0),
  (1,(kl91,[ke6],[]),214,kc1,[2],0),
  (2,(kl94,[],[]),213,kc1,[3],0),
  (3,(kl94,[ke6],[]),212,kc1,[4],0),
  (4,(kl421,[],[]),210,kc29,[6],0),
  (5,(kl422,[ke77],[]),220,kc1,[7],0),
  (5,(kl421,[ke350],[]),209,kc29,[8],0),
  (6,(kl422,[ke103,ke77],[]),219,kc1,[10,9],0),
  (6,(kl421,[ke103,ke350],[]),208,kc29,[12,11],0),
  (9,(kl422,[ke105,ke77],[]),218,kc1,[13],0),
  (9,(kl422,[ke106,ke77],[]),217,kc1,[13],0),
  (9,(kl421,[ke105,ke350],[]),207,kc29,[14],0),
  (9,(kl421,[ke106,ke350],[]),206,kc29,[14],0),
  (12,(kl422,[ke128,ke77],[]),216,kc1,[45,15],0),
  (12,(kl421,[ke128,ke350],[]),205,kc29,[45,15],0),
  (15,(kl423,[],[]),204,kc29,[16],0),
  (16,(kl423,[ke103],[]),203,kc29,[17],0),
  (19,(kl423,[ke190],[]),202,kc29,[18],0),
  (20,(kl423,[ke103,ke190],[]),201,kc29,[20,19],0),
  (23,(kl423,[ke105,ke190],[]),200,kc29,[21],0),
  (23,(kl423,[ke106,ke190],[]),195,kc29,[22],0),
  (24,(kl423,[ke103,ke105,ke190],[]),199,kc29,[23],0),
  (24,(kl423,[ke103,ke106,ke190],[]),194,kc29,[24],0),
  (27,(kl423,[ke114,ke105,ke190],[]),198,kc29,[25],0),
  (27,(kl423,[ke114,ke106,ke190],[]),193,kc29,[26],0),
  (30,(kl423,[ke102,ke105,ke190],[]),197,kc29,[29],0),
  (30,(kl423,[ke102,ke106,ke190],[]),192,kc29,[30],0),
  (31,(kl422,[ke77,ke102,ke105,ke190],[]),221,kc1,[31],185),
  (31,(kl422,[ke77,ke102,ke106,ke190],[]),222,kc1,[31],184),
  (31,(kl423,[ke96,ke102,ke105,ke190],[]),196,kc29,[31],185),
  (31,(kl423,[ke96,ke102,ke106,ke190],[]),191,kc29,[31],184),
  (34,(kl423,[ke192],[]),190,kc29,[32],0),
  (35,(kl423,[ke41,ke192],[]),189,kc29,[43,33],0),
  (38,(kl423,[],[]),188,kc29,[35],0),
  (39,(kl422,[ke74],[]),226,kc1,[36],0),
  (39,(kl423,[ke351],[]),187,kc29,[37],0),
  (40,(kl422,[ke5,ke74],[]),225,kc1,[38],0),
  (40,(kl423,[ke5,ke351],[]),186,kc29,[39],0),
  (41,(kl422,[ke77,ke5,ke74],[]),224,kc1,[40],0),
  (41,(kl423,[ke96,ke5,ke351],[]),185,kc29,[41],0),
  (42,(kl422,[ke5,ke74],[]),223,kc1,[42],0),
  (42,(kl423,[ke100,ke351],[]),184,kc29,[42],0),
  (43,(kl423,[ke54],[]),183,kc29,[43],0),
  (44,(kl423,[],[]),182,kc29,[44],0),
  (47,(kl424,[],[]),211,kc29,[4],0),
  (50,(kl421,[],[]),1,kc1,[46],0),
  (51,(kl421,[ke351],[]),0,kc1,[],0)]
def CN206 : List (List ND) := [CN206_0]
theorem CK206 : chkS prot SMs SM206 [] CN206 = true := by decide +kernel
-- OneSided.ahead
def kl425 : AL := [some ka72,some ka34,some ka40]
def CN207_0 : List ND := [(0,(kl425,[],[]),16,kc1,[1],0),
  (1,(kl425,[ke103],[]),15,kc1,[3,2],0),
  (4,(kl425,[ke105],[]),7,kc1,[4],0),
  (4,(kl425,[ke106],[]),14,kc1,[5],0),
  (5,(kl425,[ke60,ke105],[]),6,kc1,[6],0),
  (5,(kl425,[ke60,ke106],[]),13,kc1,[7],0),
  (6,(kl425,[ke78,ke60,ke105],[]),5,kc1,[8],0),
  (6,(kl425,[ke78,ke60,ke106],[]),12,kc1,[9],0),
  (7,(kl425,[ke103,ke78,ke60,ke105],[]),4,kc1,[10],0),
  (7,(kl425,[ke103,ke78,ke60,ke106],[]),11,kc1,[11],0),
  (10,(kl425,[ke114,ke78,ke60,ke105],[]),3,kc1,[12],0),
  (10,(kl425,[ke114,ke78,ke60,ke106],[]),10,kc1,[13],0),
  (13,(kl425,[ke102,ke78,ke60,ke105],[]),2,kc1,[14],0),
  (13,(kl425,[ke102,ke78,ke60,ke106],[]),9,kc1,[15],0),
  (16,(kl425,[ke127,ke78,ke60,ke105],[]),1,kc1,[16],153),
  (16,(kl425,[ke127,ke78,ke60,ke106],[]),8,kc1,[16],150),
  (19,(kl425,[ke7],[]),0,kc1,[],0)]
def CN207 : List (List ND) := [CN207_0]
theorem CK207 : chkS prot SMs SM207 [] CN207 = true := by decide +kernel
-- OneSided.back
def CN208_0 : List ND := [(0,(kl425,[],[]),16,kc1,[1],0),
  (1,(kl425,[ke103],[]),15,kc1,[3,2],0),
  (4,(kl425,[ke105],[]),7,kc1,[4],0),
  (4,(kl425,[ke106],[]),14,kc1,[5],0),
  (5,(kl425,[ke60,ke105],[]),6,kc1,[6],0),
  (5,(kl425,[ke60,ke106],[]),13,kc1,[7],0),
  (6,(kl425,[ke78,ke60,ke105],[]),5,kc1,[8],0),
  (6,(kl425,[ke78,ke60,ke106],[]),12,kc1,[9],0),
  (7,(kl425,[ke103,ke78,ke60,ke105],[]),4,kc1,[10],0),
  (7,(kl425,[ke103,ke78,ke60,ke106],[]),11,kc1,[11],0),
  (10,(kl425,[ke114,ke78,ke60,ke105],[]),3,kc1,[12],0),
  (10,(kl425,[ke114,ke78,ke60,ke106],[]),10,kc1,[13],0),
  (13,(kl425,[ke102,ke78,ke60,ke105],[]),2,kc1,[14],0),
  (13,(kl425,[ke102,ke78,ke60,ke106],[]),9,kc1,[15],0),
  (16,(kl425,[ke127,ke78,ke60,ke105],[]),1,kc1,[16],154),
  (16,(kl425,[ke127,ke78,ke60,ke106],[]),8,kc1,[16],151),
  (19,(kl425,[ke7],[]),0,kc1,[],0)]
def CN208 : List (List ND) := [CN208_0]
theorem CK208 : chkS prot SMs SM208 [] CN208 = true := by decide +kernel
-- OneSided$Web.roomsFrom
def kl426 : AL := [some ka12,some ka0,some ka0,some ka36,none,none,none]
def kl427 : AL := [some ka12,some ka0,some ka0,some ka36,some ka108,none,none]
def ka172 : AV := (0,0,10,1)
def kl428 : AL := [some ka12,some ka0,some ka0,some ka36,some ka47,some ka172,none]
def kc30 : List Int := [0,0,0,0,0,-18,0]
def kl429 : AL := [some ka12,some ka0,some ka0,some ka36,some ka108,some ka1,none]
def ke352 : SE := (ka172,(1,5,0,0,0))
def kl430 : AL := [some ka12,some ka0,some ka0,some ka36,some ka47,some ka36,none]
def kl431 : AL := [some ka12,some ka0,some ka0,some ka36,some ka47,some ka36,some ka47]
def ka173 : AV := (0,1,10,1)
def kl432 : AL := [some ka12,some ka0,some ka0,some ka36,some ka47,some ka173,some ka47]
def CN209_0 : List ND := [(0,(kl426,[],[]),206,kc6,[1],0),
  (1,(kl426,[ke5],[]),205,kc6,[2],0),
  (2,(kl426,[ke138,ke5],[]),204,kc6,[3],0),
  (3,(kl426,[ke181],[]),203,kc6,[4],0),
  (5,(kl427,[],[]),202,kc6,[5],0),
  (6,(kl427,[ke6],[]),201,kc6,[6],0),
  (8,(kl428,[],[]),199,kc30,[8],0),
  (10,(kl429,[ke16],[]),208,kc6,[9],0),
  (10,(kl428,[ke352],[]),198,kc30,[10],0),
  (12,(kl429,[ke339,ke16],[]),207,kc6,[11],0),
  (12,(kl428,[ke339,ke352],[]),197,kc30,[27,11],0),
  (15,(kl430,[],[]),196,kc30,[12],0),
  (17,(kl430,[ke180],[]),195,kc30,[13],0),
  (18,(kl430,[ke10,ke180],[]),194,kc30,[14],0),
  (19,(kl430,[ke1,ke10,ke180],[]),193,kc30,[15],0),
  (20,(kl430,[ke2,ke1,ke10,ke180],[]),192,kc30,[16],0),
  (22,(kl430,[ke180,ke2,ke1,ke10,ke180],[]),191,kc30,[17],177),
  (25,(kl430,[ke54,ke180],[]),190,kc30,[18],0),
  (26,(kl430,[ke54],[]),189,kc30,[19],0),
  (28,(kl431,[],[]),188,kc30,[20],0),
  (30,(kl431,[ke64],[]),187,kc30,[21],0),
  (32,(kl431,[ke180,ke64],[]),186,kc30,[23,22],0),
  (35,(kl431,[],[]),2,kc6,[27],0),
  (38,(kl431,[],[]),185,kc30,[24],0),
  (40,(kl431,[ke64],[]),184,kc30,[25],0),
  (42,(kl431,[],[]),183,kc30,[26],0),
  (45,(kl432,[],[]),200,kc30,[6],0),
  (48,(kl428,[],[]),1,kc6,[28],0),
  (50,(kl428,[ke180],[]),0,kc6,[],0)]
def CN209 : List (List ND) := [CN209_0]
theorem CK209 : chkS prot SMs SM209 [] CN209 = true := by decide +kernel
-- OneSided$Web.ringOf
def kl433 : AL := [some ka12,some ka0,some ka0,some ka36]
def CN210_0 : List ND := [(0,(kl433,[],[]),11,kc10,[1],0),
  (1,(kl433,[ke10],[]),10,kc10,[2],0),
  (2,(kl433,[ke1,ke10],[]),9,kc10,[3],0),
  (3,(kl433,[ke2,ke1,ke10],[]),8,kc10,[4],0),
  (4,(kl433,[ke138,ke2,ke1,ke10],[]),7,kc10,[5],209),
  (7,(kl433,[ke54],[]),6,kc10,[6],0),
  (8,(kl433,[ke10,ke54],[]),5,kc10,[7],0),
  (9,(kl433,[ke2,ke10,ke54],[]),4,kc10,[8],0),
  (10,(kl433,[ke1,ke2,ke10,ke54],[]),3,kc10,[9],0),
  (11,(kl433,[ke138,ke1,ke2,ke10,ke54],[]),2,kc10,[10],209),
  (14,(kl433,[ke54,ke54],[]),1,kc10,[11],0),
  (15,(kl433,[ke54],[]),0,kc10,[],0)]
def CN210 : List (List ND) := [CN210_0]
theorem CK210 : chkS prot SMs SM210 [] CN210 = true := by decide +kernel
-- OneSided.ring
def kl434 : AL := [some ka72,some ka0,some ka0,some ka0]
def kl435 : AL := [some ka72,some ka36,some ka0,some ka0]
def kl436 : AL := [some ka72,some ka36,some ka34,some ka38]
def ke353 : SE := (ka36,(1,1,0,0,0))
def CN213_0 : List ND := [(0,(kl434,[],[]),35,kc10,[1],0),
  (1,(kl434,[ke103],[]),34,kc10,[2],0),
  (2,(kl434,[ke1,ke103],[]),33,kc10,[4,3],148),
  (5,(kl434,[ke6],[]),32,kc10,[11],0),
  (5,(kl435,[ke5],[]),31,kc10,[5],0),
  (8,(kl435,[],[]),30,kc10,[6],0),
  (9,(kl435,[ke103],[]),29,kc10,[7],0),
  (10,(kl435,[ke2,ke103],[]),28,kc10,[8],0),
  (11,(kl435,[ke3,ke2,ke103],[]),27,kc10,[10,9],149),
  (14,(kl435,[ke6],[]),2,kc10,[11],0),
  (14,(kl436,[ke5],[]),26,kc10,[13],0),
  (17,(kl434,[],[]),1,kc10,[12],0),
  (18,(kl434,[ke41],[]),0,kc10,[],0),
  (19,(kl436,[],[]),25,kc10,[14],0),
  (20,(kl436,[ke103],[]),24,kc10,[16,15],0),
  (23,(kl436,[ke105],[]),23,kc10,[17],0),
  (23,(kl436,[ke106],[]),13,kc10,[18],0),
  (24,(kl436,[ke103,ke105],[]),22,kc10,[19],0),
  (24,(kl436,[ke103,ke106],[]),12,kc10,[20],0),
  (25,(kl436,[ke42,ke103,ke105],[]),21,kc10,[21],0),
  (25,(kl436,[ke42,ke103,ke106],[]),11,kc10,[22],0),
  (26,(kl436,[ke43,ke42,ke103,ke105],[]),20,kc10,[23],207),
  (26,(kl436,[ke43,ke42,ke103,ke106],[]),10,kc10,[24],207),
  (29,(kl436,[ke7,ke105],[]),19,kc10,[25],0),
  (29,(kl436,[ke7,ke106],[]),9,kc10,[26],0),
  (30,(kl436,[ke103,ke7,ke105],[]),18,kc10,[27],0),
  (30,(kl436,[ke103,ke7,ke106],[]),8,kc10,[28],0),
  (31,(kl436,[ke42,ke103,ke7,ke105],[]),17,kc10,[29],0),
  (31,(kl436,[ke42,ke103,ke7,ke106],[]),7,kc10,[30],0),
  (32,(kl436,[ke43,ke42,ke103,ke7,ke105],[]),16,kc10,[31],208),
  (32,(kl436,[ke43,ke42,ke103,ke7,ke106],[]),6,kc10,[32],208),
  (35,(kl436,[ke7,ke7,ke105],[]),15,kc10,[33],0),
  (35,(kl436,[ke7,ke7,ke106],[]),5,kc10,[34],0),
  (36,(kl436,[ke353,ke7,ke7,ke105],[]),14,kc10,[35],212),
  (36,(kl436,[ke353,ke7,ke7,ke106],[]),4,kc10,[35],210),
  (39,(kl436,[ke54],[]),3,kc10,[],0)]
def CN213 : List (List ND) := [CN213_0]
theorem CK213 : chkS prot SMs SM213 [] CN213 = true := by decide +kernel
-- OneSided.homeless
def kl437 : AL := [some ka72,some ka0,some ka0,some ka0,none]
def kl438 : AL := [some ka72,some ka36,some ka0,some ka0,none]
def kl439 : AL := [some ka72,some ka36,some ka34,some ka38,none]
def ka174 : AV := (0,4,1024,1)
def ke354 : SE := (ka174,pv0)
def ka175 : AV := (0,3,1023,1)
def ke355 : SE := (ka175,pv0)
def kl440 : AL := [some ka72,some ka36,some ka34,some ka38,some ka175]
def ke356 : SE := (ka175,(1,4,0,0,0))
def CN214_0 : List ND := [(0,(kl437,[],[]),48,kc0,[1],0),
  (1,(kl437,[ke103],[]),47,kc0,[2],0),
  (2,(kl437,[ke1,ke103],[]),46,kc0,[4,3],148),
  (5,(kl437,[ke6],[]),45,kc0,[11],0),
  (5,(kl438,[ke5],[]),44,kc0,[5],0),
  (8,(kl438,[],[]),43,kc0,[6],0),
  (9,(kl438,[ke103],[]),42,kc0,[7],0),
  (10,(kl438,[ke2,ke103],[]),41,kc0,[8],0),
  (11,(kl438,[ke3,ke2,ke103],[]),40,kc0,[10,9],149),
  (14,(kl438,[ke6],[]),2,kc0,[11],0),
  (14,(kl439,[ke5],[]),39,kc0,[13],0),
  (17,(kl437,[],[]),1,kc0,[12],0),
  (18,(kl437,[ke41],[]),0,kc0,[],0),
  (19,(kl439,[],[]),38,kc0,[14],0),
  (20,(kl439,[ke5],[]),37,kc0,[15],0),
  (21,(kl439,[ke103,ke5],[]),36,kc0,[17,16],0),
  (24,(kl439,[ke105,ke5],[]),35,kc0,[18],0),
  (24,(kl439,[ke106,ke5],[]),34,kc0,[18],0),
  (27,(kl439,[ke135,ke5],[]),33,kc0,[19],0),
  (28,(kl439,[ke354],[]),32,kc0,[20],0),
  (29,(kl439,[ke5,ke354],[]),31,kc0,[21],0),
  (30,(kl439,[ke355],[]),30,kc0,[22],0),
  (32,(kl440,[],[]),29,kc0,[23],0),
  (34,(kl440,[ke356],[]),28,kc0,[24],0),
  (35,(kl440,[ke103,ke356],[]),27,kc0,[26,25],0),
  (38,(kl440,[ke105,ke356],[]),26,kc0,[27],0),
  (38,(kl440,[ke106,ke356],[]),16,kc0,[28],0),
  (39,(kl440,[ke103,ke105,ke356],[]),25,kc0,[29],0),
  (39,(kl440,[ke103,ke106,ke356],[]),15,kc0,[30],0),
  (40,(kl440,[ke42,ke103,ke105,ke356],[]),24,kc0,[31],0),
  (40,(kl440,[ke42,ke103,ke106,ke356],[]),14,kc0,[32],0),
  (41,(kl440,[ke43,ke42,ke103,ke105,ke356],[]),23,kc0,[33],208),
  (41,(kl440,[ke43,ke42,ke103,ke106,ke356],[]),13,kc0,[34],208),
  (44,(kl440,[ke7,ke105,ke356],[]),22,kc0,[35],0),
  (44,(kl440,[ke7,ke106,ke356],[]),12,kc0,[36],0),
  (45,(kl440,[ke103,ke7,ke105,ke356],[]),21,kc0,[37],0),
  (45,(kl440,[ke103,ke7,ke106,ke356],[]),11,kc0,[38],0),
  (46,(kl440,[ke42,ke103,ke7,ke105,ke356],[]),20,kc0,[39],0),
  (46,(kl440,[ke42,ke103,ke7,ke106,ke356],[]),10,kc0,[40],0),
  (47,(kl440,[ke43,ke42,ke103,ke7,ke105,ke356],[]),19,kc0,[41],207),
  (47,(kl440,[ke43,ke42,ke103,ke7,ke106,ke356],[]),9,kc0,[42],207),
  (50,(kl440,[ke7,ke7,ke105,ke356],[]),18,kc0,[43],0),
  (50,(kl440,[ke7,ke7,ke106,ke356],[]),8,kc0,[44],0),
  (51,(kl440,[ke353,ke7,ke7,ke105,ke356],[]),17,kc0,[45],211),
  (51,(kl440,[ke353,ke7,ke7,ke106,ke356],[]),7,kc0,[45],209),
  (54,(kl440,[ke54,ke356],[]),6,kc0,[46],0),
  (55,(kl440,[ke41,ke54,ke356],[]),5,kc0,[47],0),
  (56,(kl440,[ke7,ke356],[]),4,kc0,[48],0),
  (57,(kl440,[ke54],[]),3,kc0,[],0)]
def CN214 : List (List ND) := [CN214_0]
theorem CK214 : chkS prot SMs SM214 [] CN214 = true := by decide +kernel
-- OneSided$Web.doorsToAdd
def kl441 : AL := [some ka12,some ka0,some ka0,some ka2,none,none,none,none,none,none,none]
def kl442 : AL := [some ka12,some ka0,some ka0,some ka2,some ka1,none,none,none,none,none,none]
def kl443 : AL := [some ka12,some ka0,some ka0,some ka2,some ka1,some ka1,none,none,none,none,none]
def kl444 : AL := [some ka12,some ka0,some ka0,some ka2,some ka1,some ka1,some ka1,none,none,none,none]
def kl445 : AL := [some ka12,some ka0,some ka0,some ka2,some ka0,some ka0,some ka0,some ka172,none,none,none]
def kc31 : List Int := [0,0,0,0,0,0,0,-52,0,0,0]
def kl446 : AL := [some ka12,some ka0,some ka0,some ka2,some ka1,some ka1,some ka1,some ka1,none,none,none]
def ke357 : SE := (ka172,(1,7,0,0,0))
def ke358 : SE := (ka88,(2,5,0,0,0))
def kl447 : AL := [some ka12,some ka0,some ka0,some ka2,some ka0,some ka0,some ka0,some ka36,none,none,none]
def kf65 : FA := [(5,0,ka88)]
def ke359 : SE := (ka36,(1,7,0,0,0))
def kl448 : AL := [some ka12,some ka0,some ka0,some ka2,some ka0,some ka0,some ka0,some ka36,some ka47,none,none]
def kl449 : AL := [some ka12,some ka0,some ka0,some ka2,some ka1,some ka1,some ka1,some ka1,some ka47,none,none]
def kl450 : AL := [some ka12,some ka0,some ka0,some ka2,some ka0,some ka0,some ka0,some ka36,some ka47,some ka47,none]
def ke360 : SE := (ka47,(1,9,0,0,0))
def kl451 : AL := [some ka12,some ka0,some ka0,some ka2,some ka0,some ka0,some ka0,some ka36,some ka47,some ka47,some ka47]
def kl452 : AL := [some ka12,some ka0,some ka0,some ka2,some ka1,some ka1,some ka1,some ka1,some ka47,some ka47,some ka47]
def ka176 : AV := (0,0,511,1)
def ke361 : SE := (ka176,pv0)
def kl453 : AL := [some ka12,some ka0,some ka0,some ka2,some ka2,some ka1,some ka1,some ka1,some ka47,some ka47,some ka47]
def kl454 : AL := [some ka12,some ka0,some ka0,some ka2,some ka2,some ka27,some ka1,some ka1,some ka47,some ka47,some ka47]
def kl455 : AL := [some ka12,some ka0,some ka0,some ka2,some ka0,some ka0,some ka0,some ka173,some ka47,some ka47,some ka47]
def kl456 : AL := [some ka12,some ka0,some ka0,some ka2,some ka0,some ka0,some ka0,some ka88,none,none,none]
def kl457 : AL := [some ka12,some ka0,some ka0,some ka2,some ka2,some ka0,some ka0,some ka88,none,none,none]
def ke362 : SE := (ka2,(1,3,0,0,0))
def CN215_0 : List ND := [(0,(kl441,[],[]),597,kc18,[1],0),
  (1,(kl441,[ke6],[]),596,kc18,[2],0),
  (3,(kl442,[],[]),595,kc18,[3],0),
  (4,(kl442,[ke6],[]),594,kc18,[4],0),
  (6,(kl443,[],[]),593,kc18,[5],0),
  (7,(kl443,[ke6],[]),592,kc18,[6],0),
  (9,(kl444,[],[]),591,kc18,[7],0),
  (10,(kl444,[ke6],[]),590,kc18,[8],0),
  (12,(kl445,[],[]),588,kc31,[10],0),
  (14,(kl446,[ke216],[]),600,kc18,[11],0),
  (14,(kl445,[ke357],[]),587,kc31,[12],0),
  (15,(kl446,[ke10,ke216],[]),599,kc18,[13],0),
  (15,(kl445,[ke10,ke357],[]),586,kc31,[14],0),
  (18,(kl446,[ke358,ke216],[]),598,kc18,[15],0),
  (18,(kl445,[ke358,ke357],[]),585,kc31,[90,15],0),
  (21,(kl447,[],[]),584,kc31,[16],0),
  (22,(kl447,[ke10],[]),583,kc31,[17],0),
  (23,(kl447,[ke1,ke10],[]),582,kc31,[18],0),
  (24,(kl447,[ke2,ke1,ke10],[]),581,kc31,[20],0),
  (26,(kl446,[ke216,ke2,ke1,ke10],kf65),601,kc18,[21],209),
  (26,(kl447,[ke359,ke2,ke1,ke10],[]),580,kc31,[21],209),
  (29,(kl447,[ke54],[]),579,kc31,[22],0),
  (31,(kl448,[],[]),578,kc31,[23],0),
  (32,(kl448,[ke10],[]),577,kc31,[24],0),
  (33,(kl448,[ke2,ke10],[]),576,kc31,[25],0),
  (34,(kl448,[ke1,ke2,ke10],[]),575,kc31,[27],0),
  (36,(kl449,[ke216,ke1,ke2,ke10],kf65),602,kc18,[28],209),
  (36,(kl448,[ke359,ke1,ke2,ke10],[]),574,kc31,[28],209),
  (39,(kl448,[ke54],[]),573,kc31,[29],0),
  (41,(kl450,[],[]),572,kc31,[30],0),
  (43,(kl450,[ke55],[]),571,kc31,[31],0),
  (45,(kl450,[ke360,ke55],[]),570,kc31,[32],0),
  (46,(kl450,[ke54],[]),569,kc31,[33],0),
  (48,(kl451,[],[]),568,kc31,[34],0),
  (50,(kl451,[ke199],[]),567,kc31,[35],0),
  (51,(kl451,[ke5,ke199],[]),566,kc31,[37],0),
  (53,(kl452,[ke216,ke5,ke199],kf65),607,kc18,[38],0),
  (53,(kl451,[ke359,ke5,ke199],[]),565,kc31,[39],0),
  (54,(kl452,[ke5,ke199],kf65),606,kc18,[40],0),
  (54,(kl451,[ke181,ke199],[]),564,kc31,[41],0),
  (55,(kl452,[ke5,ke5,ke199],kf65),605,kc18,[42],0),
  (55,(kl451,[ke5,ke181,ke199],[]),563,kc31,[43],0),
  (56,(kl452,[ke6,ke199],kf65),604,kc18,[44],0),
  (56,(kl451,[ke361,ke199],[]),562,kc31,[45],0),
  (57,(kl452,[ke6],kf65),603,kc18,[47],0),
  (57,(kl451,[ke361],[]),561,kc31,[47,46],0),
  (60,(kl451,[],[]),539,kc31,[88],0),
  (63,(kl451,[],[]),560,kc31,[48],0),
  (66,(kl451,[],[]),559,kc31,[50],0),
  (68,(kl453,[ke16],kf65),617,kc18,[51],0),
  (68,(kl451,[ke140],[]),558,kc31,[52],0),
  (70,(kl453,[ke360,ke16],kf65),616,kc18,[53],0),
  (70,(kl451,[ke360,ke140],[]),557,kc31,[54],0),
  (72,(kl453,[ke199,ke360,ke16],kf65),615,kc18,[59,55],0),
  (72,(kl451,[ke199,ke360,ke140],[]),556,kc31,[60,56],0),
  (75,(kl453,[ke16],kf65),611,kc18,[57],0),
  (75,(kl451,[ke140],[]),555,kc31,[58],0),
  (76,(kl453,[ke5,ke16],kf65),610,kc18,[62],0),
  (76,(kl451,[ke5,ke140],[]),554,kc31,[64],0),
  (79,(kl453,[ke16],kf65),614,kc18,[61],0),
  (79,(kl451,[ke140],[]),552,kc31,[63],0),
  (80,(kl453,[ke6,ke16],kf65),613,kc18,[65],0),
  (80,(kl453,[ke5,ke16],kf65),609,kc18,[66],0),
  (80,(kl451,[ke6,ke140],[]),551,kc31,[67],0)]
def CN215_1 : List ND := [(80,(kl451,[ke5,ke140],[]),553,kc31,[67],0),
  (81,(kl453,[ke6],kf65),612,kc18,[68],0),
  (81,(kl453,[ke5],kf65),608,kc18,[68],0),
  (81,(kl451,[ke7],[]),550,kc31,[68],0),
  (83,(kl451,[],[]),549,kc31,[70],0),
  (85,(kl454,[ke8],[]),627,kc18,[71],0),
  (85,(kl451,[ke183],[]),548,kc31,[72],0),
  (87,(kl454,[ke55,ke8],[]),626,kc18,[73],0),
  (87,(kl451,[ke55,ke183],[]),547,kc31,[74],0),
  (89,(kl454,[ke199,ke55,ke8],[]),625,kc18,[79,75],0),
  (89,(kl451,[ke199,ke55,ke183],[]),546,kc31,[80,76],0),
  (92,(kl454,[ke8],[]),621,kc18,[77],0),
  (92,(kl451,[ke183],[]),543,kc31,[78],0),
  (93,(kl454,[ke5,ke8],[]),620,kc18,[82],0),
  (93,(kl451,[ke5,ke183],[]),542,kc31,[84],0),
  (96,(kl454,[ke8],[]),624,kc18,[81],0),
  (96,(kl451,[ke183],[]),545,kc31,[83],0),
  (97,(kl454,[ke6,ke8],[]),623,kc18,[85],0),
  (97,(kl454,[ke5,ke8],[]),619,kc18,[86],0),
  (97,(kl451,[ke6,ke183],[]),544,kc31,[87],0),
  (97,(kl451,[ke5,ke183],[]),541,kc31,[87],0),
  (98,(kl454,[ke6],[]),622,kc18,[88],0),
  (98,(kl454,[ke5],[]),618,kc18,[88],0),
  (98,(kl451,[ke7],[]),540,kc31,[88],0),
  (100,(kl451,[],[]),538,kc31,[89],0),
  (103,(kl455,[],[]),589,kc31,[8],0),
  (106,(kl456,[],[]),17,kc18,[91],0),
  (108,(kl456,[ke4],[]),16,kc18,[92],0),
  (109,(kl456,[ke5,ke4],[]),15,kc18,[95,93],0),
  (112,(kl457,[],[]),1,kc18,[94],0),
  (113,(kl457,[ke6],[]),0,kc18,[],0),
  (114,(kl456,[],[]),14,kc18,[96],0),
  (115,(kl456,[ke362],[]),13,kc18,[97],0),
  (118,(kl456,[],[]),12,kc18,[98],0),
  (120,(kl456,[ke140],[]),11,kc18,[99],0),
  (122,(kl456,[ke4,ke140],[]),10,kc18,[104,100],0),
  (125,(kl456,[],[]),5,kc18,[101],0),
  (127,(kl456,[ke4],[]),4,kc18,[102],0),
  (128,(kl456,[ke5,ke4],[]),3,kc18,[103],0),
  (129,(kl456,[ke7],[]),2,kc18,[],0),
  (130,(kl456,[],[]),9,kc18,[105],0),
  (132,(kl456,[ke140],[]),8,kc18,[106],0),
  (134,(kl456,[ke183,ke140],[]),7,kc18,[107],0),
  (137,(kl456,[ke7],[]),6,kc18,[],0)]
def CN215 : List (List ND) := [CN215_0, CN215_1]
theorem CK215 : chkS prot SMs SM215 [] CN215 = true := by decide +kernel
-- OneSided.add
def kl458 : AL := [some ka72,some ka37,some ka38]
def kl459 : AL := [some ka72,some ka23,some ka38]
def CN219_0 : List ND := [(0,(kl151,[],[]),42,kc1,[1],0),
  (1,(kl151,[ke103],[]),41,kc1,[2],0),
  (2,(kl151,[ke1,ke103],[]),40,kc1,[3],0),
  (3,(kl151,[ke2,ke1,ke103],[]),39,kc1,[5,4],149),
  (6,(kl151,[ke6],[]),2,kc1,[6],0),
  (6,(kl155,[ke5],[]),38,kc1,[8],0),
  (9,(kl151,[],[]),1,kc1,[7],0),
  (10,(kl151,[ke41],[]),0,kc1,[],0),
  (11,(kl155,[],[]),37,kc1,[9],0),
  (12,(kl155,[ke103],[]),36,kc1,[11,10],0),
  (15,(kl155,[ke105],[]),35,kc1,[12],0),
  (15,(kl155,[ke106],[]),19,kc1,[13],0),
  (16,(kl155,[ke103,ke105],[]),34,kc1,[14],0),
  (16,(kl155,[ke103,ke106],[]),18,kc1,[15],0),
  (17,(kl155,[ke60,ke103,ke105],[]),33,kc1,[16],0),
  (17,(kl155,[ke60,ke103,ke106],[]),17,kc1,[17],0),
  (18,(kl155,[ke61,ke60,ke103,ke105],[]),32,kc1,[18],207),
  (18,(kl155,[ke61,ke60,ke103,ke106],[]),16,kc1,[19],207),
  (21,(kl155,[ke7,ke105],[]),31,kc1,[20],0),
  (21,(kl155,[ke7,ke106],[]),15,kc1,[21],0),
  (22,(kl155,[ke103,ke7,ke105],[]),30,kc1,[22],0),
  (22,(kl155,[ke103,ke7,ke106],[]),14,kc1,[23],0),
  (23,(kl155,[ke60,ke103,ke7,ke105],[]),29,kc1,[24],0),
  (23,(kl155,[ke60,ke103,ke7,ke106],[]),13,kc1,[25],0),
  (24,(kl155,[ke61,ke60,ke103,ke7,ke105],[]),28,kc1,[26],208),
  (24,(kl155,[ke61,ke60,ke103,ke7,ke106],[]),12,kc1,[27],208),
  (27,(kl155,[ke7,ke7,ke105],[]),27,kc1,[28],0),
  (27,(kl155,[ke7,ke7,ke106],[]),11,kc1,[29],0),
  (28,(kl155,[ke60,ke7,ke7,ke105],[]),26,kc1,[30],0),
  (28,(kl155,[ke60,ke7,ke7,ke106],[]),10,kc1,[31],0),
  (29,(kl155,[ke36,ke60,ke7,ke7,ke105],[]),25,kc1,[36,32],0),
  (29,(kl155,[ke36,ke60,ke7,ke7,ke106],[]),9,kc1,[37,33],0),
  (32,(kl458,[ke7,ke7,ke105],[]),24,kc1,[34],0),
  (32,(kl458,[ke7,ke7,ke106],[]),8,kc1,[35],0),
  (33,(kl458,[ke5,ke7,ke7,ke105],[]),23,kc1,[40],0),
  (33,(kl458,[ke5,ke7,ke7,ke106],[]),7,kc1,[41],0),
  (36,(kl459,[ke7,ke7,ke105],[]),21,kc1,[38],0),
  (36,(kl459,[ke7,ke7,ke106],[]),5,kc1,[39],0),
  (37,(kl459,[ke6,ke7,ke7,ke105],[]),20,kc1,[42],218),
  (37,(kl459,[ke6,ke7,ke7,ke106],[]),4,kc1,[42],217),
  (37,(kl458,[ke5,ke7,ke7,ke105],[]),22,kc1,[42],216),
  (37,(kl458,[ke5,ke7,ke7,ke106],[]),6,kc1,[42],215),
  (40,(kl155,[ke7],[]),3,kc1,[],0)]
def CN219 : List (List ND) := [CN219_0]
theorem CK219 : chkS prot SMs SM219 [] CN219 = true := by decide +kernel
-- OneSided$Web.isOneRing
def kl460 : AL := [some ka12,some ka0,some ka0,none]
def kl461 : AL := [some ka12,some ka0,some ka0,some ka175]
def ke363 : SE := (ka175,(1,3,0,0,0))
def CN220_0 : List ND := [(0,(kl460,[],[]),25,kc10,[1],0),
  (1,(kl460,[ke5],[]),24,kc10,[2],0),
  (2,(kl460,[ke10,ke5],[]),23,kc10,[3],0),
  (5,(kl460,[ke358,ke5],[]),22,kc10,[4],0),
  (6,(kl460,[ke354],[]),21,kc10,[5],0),
  (7,(kl460,[ke5,ke354],[]),20,kc10,[6],0),
  (8,(kl460,[ke355],[]),19,kc10,[7],0),
  (9,(kl461,[],[]),18,kc10,[8],0),
  (10,(kl461,[ke10],[]),17,kc10,[9],0),
  (11,(kl461,[ke1,ke10],[]),16,kc10,[10],0),
  (12,(kl461,[ke2,ke1,ke10],[]),15,kc10,[11],0),
  (13,(kl461,[ke6,ke2,ke1,ke10],[]),14,kc10,[12],209),
  (16,(kl461,[ke54],[]),13,kc10,[13],0),
  (17,(kl461,[ke363,ke54],[]),12,kc10,[23,14],0),
  (20,(kl461,[],[]),11,kc10,[15],0),
  (21,(kl461,[ke10],[]),10,kc10,[16],0),
  (22,(kl461,[ke2,ke10],[]),9,kc10,[17],0),
  (23,(kl461,[ke1,ke2,ke10],[]),8,kc10,[18],0),
  (24,(kl461,[ke6,ke1,ke2,ke10],[]),7,kc10,[19],209),
  (27,(kl461,[ke54],[]),6,kc10,[20],0),
  (28,(kl461,[ke363,ke54],[]),5,kc10,[23,21],0),
  (31,(kl461,[],[]),4,kc10,[22],0),
  (32,(kl461,[ke5],[]),3,kc10,[25],0),
  (35,(kl461,[],[]),1,kc10,[24],0),
  (36,(kl461,[ke6],[]),0,kc10,[],1),
  (36,(kl461,[ke5],[]),2,kc10,[],0)]
def CN220 : List (List ND) := [CN220_0]
theorem CK220 : chkS prot SMs SM220 [] CN220 = true := by decide +kernel
-- java/lang/Integer.bitCount
def kl462 : AL := [some ka0]
def ka177 : AV := (0,1431655765,1431655765,0)
def ke364 : SE := (ka177,pv0)
def ka178 : AV := (0,0,1431655765,1)
def ke365 : SE := (ka178,pv0)
def ka179 : AV := (0,858993459,858993459,0)
def ke366 : SE := (ka179,pv0)
def ka180 : AV := (0,0,858993459,1)
def ke367 : SE := (ka180,pv0)
def ka181 : AV := (0,0,1717986918,1)
def ke368 : SE := (ka181,pv0)
def kl463 : AL := [some ka181]
def ke369 : SE := (ka181,(1,0,0,0,0))
def ka182 : AV := (0,252645135,252645135,0)
def ke370 : SE := (ka182,pv0)
def ka183 : AV := (0,0,252645135,1)
def ke371 : SE := (ka183,pv0)
def kl464 : AL := [some ka183]
def ke372 : SE := (ka183,(1,0,0,0,0))
def ka184 : AV := (0,63,63,0)
def ke373 : SE := (ka184,pv0)
def ka185 : AV := (0,0,63,1)
def ke374 : SE := (ka185,pv0)
def CN221_0 : List ND := [(0,(kl462,[],[]),41,kc15,[1],0),
  (1,(kl462,[ke0],[]),40,kc15,[2],0),
  (2,(kl462,[ke0,ke0],[]),39,kc15,[3],0),
  (3,(kl462,[ke5,ke0,ke0],[]),38,kc15,[4],0),
  (4,(kl462,[ke7,ke0],[]),37,kc15,[5],0),
  (7,(kl462,[ke364,ke7,ke0],[]),36,kc15,[6],0),
  (8,(kl462,[ke365,ke0],[]),35,kc15,[7],0),
  (9,(kl462,[ke7],[]),34,kc15,[8],0),
  (10,(kl462,[],[]),33,kc15,[9],0),
  (11,(kl462,[ke0],[]),32,kc15,[10],0),
  (14,(kl462,[ke366,ke0],[]),31,kc15,[11],0),
  (15,(kl462,[ke367],[]),30,kc15,[12],0),
  (16,(kl462,[ke0,ke367],[]),29,kc15,[13],0),
  (17,(kl462,[ke56,ke0,ke367],[]),28,kc15,[14],0),
  (18,(kl462,[ke7,ke367],[]),27,kc15,[15],0),
  (21,(kl462,[ke366,ke7,ke367],[]),26,kc15,[16],0),
  (22,(kl462,[ke367,ke367],[]),25,kc15,[17],0),
  (23,(kl462,[ke368],[]),24,kc15,[18],0),
  (24,(kl463,[],[]),23,kc15,[19],0),
  (25,(kl463,[ke369],[]),22,kc15,[20],0),
  (26,(kl463,[ke369,ke369],[]),21,kc15,[21],0),
  (27,(kl463,[ke76,ke369,ke369],[]),20,kc15,[22],0),
  (28,(kl463,[ke7,ke369],[]),19,kc15,[23],0),
  (29,(kl463,[ke7],[]),18,kc15,[24],0),
  (32,(kl463,[ke370,ke7],[]),17,kc15,[25],0),
  (33,(kl463,[ke371],[]),16,kc15,[26],0),
  (34,(kl464,[],[]),15,kc15,[27],0),
  (35,(kl464,[ke372],[]),14,kc15,[28],0),
  (36,(kl464,[ke372,ke372],[]),13,kc15,[29],0),
  (38,(kl464,[ke337,ke372,ke372],[]),12,kc15,[30],0),
  (39,(kl464,[ke7,ke372],[]),11,kc15,[31],0),
  (40,(kl464,[ke7],[]),10,kc15,[32],0),
  (41,(kl462,[],[]),9,kc15,[33],0),
  (42,(kl462,[ke0],[]),8,kc15,[34],0),
  (43,(kl462,[ke0,ke0],[]),7,kc15,[35],0),
  (45,(kl462,[ke156,ke0,ke0],[]),6,kc15,[36],0),
  (46,(kl462,[ke7,ke0],[]),5,kc15,[37],0),
  (47,(kl462,[ke7],[]),4,kc15,[38],0),
  (48,(kl462,[],[]),3,kc15,[39],0),
  (49,(kl462,[ke0],[]),2,kc15,[40],0),
  (51,(kl462,[ke373,ke0],[]),1,kc15,[41],0),
  (52,(kl462,[ke374],[]),0,kc15,[],0)]
def CN221 : List (List ND) := [CN221_0]
theorem CK221 : chkS prot SMs SM221 [] CN221 = true := by decide +kernel
-- OneSided$Web.doorsToTurn
def kl465 : AL := [some ka12,some ka34,some ka38,some ka0,none,none,none,none,none,none,none,none,none,none]
def kc32 : List Int := [0,0,0,0,0,0,0,0,0,0,0,0,0,0]
def kl466 : AL := [some ka12,some ka34,some ka38,some ka0,some ka0,none,none,none,none,none,none,none,none,none]
def kl467 : AL := [some ka12,some ka34,some ka38,some ka0,some ka0,some ka0,none,none,none,none,none,none,none,none]
def kl468 : AL := [some ka12,some ka34,some ka38,some ka0,some ka0,some ka0,some ka1,none,none,none,none,none,none,none]
def kl469 : AL := [some ka12,some ka34,some ka38,some ka0,some ka0,some ka0,some ka1,some ka1,none,none,none,none,none,none]
def kl470 : AL := [some ka12,some ka34,some ka38,some ka0,some ka0,some ka0,some ka0,some ka0,some ka48,none,none,none,none,none]
def kc33 : List Int := [0,0,0,0,0,0,0,0,-44,0,0,0,0,0]
def kl471 : AL := [some ka12,some ka34,some ka38,some ka0,some ka0,some ka0,some ka1,some ka1,some ka1,none,none,none,none,none]
def ke375 : SE := (ka48,(1,8,0,0,0))
def kl472 : AL := [some ka12,some ka34,some ka38,some ka0,some ka0,some ka0,some ka0,some ka0,some ka43,none,none,none,none,none]
def kl473 : AL := [some ka12,some ka34,some ka38,some ka0,some ka0,some ka0,some ka0,some ka0,some ka43,some ka47,none,none,none,none]
def kl474 : AL := [some ka12,some ka34,some ka38,some ka0,some ka0,some ka0,some ka1,some ka1,some ka1,some ka47,none,none,none,none]
def kl475 : AL := [some ka12,some ka34,some ka38,some ka0,some ka0,some ka0,some ka47,some ka1,some ka1,some ka47,none,none,none,none]
def kl476 : AL := [some ka12,some ka34,some ka38,some ka0,some ka0,some ka0,some ka0,some ka0,some ka49,some ka47,none,none,none,none]
def kl477 : AL := [some ka12,some ka34,some ka38,some ka0,some ka0,some ka0,some ka0,some ka0,some ka0,none,none,none,none,none]
def kl478 : AL := [some ka12,some ka34,some ka38,some ka0,some ka0,some ka0,some ka0,some ka0,some ka0,some ka42,none,none,none,none]
def kl479 : AL := [some ka12,some ka34,some ka38,some ka0,some ka0,some ka0,some ka0,some ka0,some ka0,some ka42,some ka142,none,none,none]
def ka186 : AV := (0,-1,16383,1)
def ka187 : AV := (0,0,16384,1)
def kl480 : AL := [some ka12,some ka34,some ka38,some ka0,some ka0,some ka0,some ka0,some ka0,some ka0,some ka186,some ka185,some ka187,none,none]
def kc34 : List Int := [0,0,0,0,0,0,0,0,0,0,0,-48,0,0]
def kl481 : AL := [some ka12,some ka34,some ka38,some ka0,some ka0,some ka0,some ka0,some ka0,some ka0,some ka42,some ka142,some ka1,none,none]
def ke376 : SE := (ka1,(1,11,0,0,0))
def ke377 : SE := (ka187,(1,11,0,0,0))
def ka188 : AV := (0,1,16384,1)
def ke378 : SE := (ka188,pv0)
def ka189 : AV := (0,0,16383,1)
def kl482 : AL := [some ka12,some ka34,some ka38,some ka0,some ka0,some ka0,some ka0,some ka0,some ka0,some ka186,some ka185,some ka189,none,none]
def ke379 : SE := (ka189,(1,11,0,0,0))
def ke380 : SE := (ka189,pv0)
def ke381 : SE := (ka185,(1,10,0,0,0))
def ka190 : AV := (0,1,63,1)
def kl483 : AL := [some ka12,some ka34,some ka38,some ka0,some ka0,some ka0,some ka0,some ka0,some ka0,some ka186,some ka190,some ka189,none,none]
def kl484 : AL := [some ka12,some ka34,some ka38,some ka0,some ka0,some ka0,some ka0,some ka0,some ka0,some ka186,some ka190,some ka189,some ka0,none]
def kl485 : AL := [some ka12,some ka34,some ka38,some ka0,some ka0,some ka0,some ka0,some ka0,some ka0,some ka42,some ka142,some ka1,some ka0,none]
def kl486 : AL := [some ka12,some ka34,some ka38,some ka0,some ka0,some ka0,some ka0,some ka0,some ka0,some ka186,some ka190,some ka189,some ka0,some ka0]
def ke382 : SE := (ka0,(1,12,0,0,0))
def ke383 : SE := (ka0,(1,13,0,0,0))
def kl487 : AL := [some ka12,some ka34,some ka38,some ka0,some ka0,some ka0,some ka0,some ka0,some ka0,some ka42,some ka142,some ka1,some ka0,some ka0]
def kl488 : AL := [some ka12,some ka34,some ka38,some ka0,some ka0,some ka0,some ka0,some ka0,some ka0,some ka189,some ka190,some ka189,some ka0,some ka0]
def kl489 : AL := [some ka12,some ka34,some ka38,some ka0,some ka0,some ka0,some ka0,some ka0,some ka0,some ka1,some ka142,some ka1,some ka0,some ka0]
def kl490 : AL := [some ka12,some ka34,some ka38,some ka0,some ka0,some ka0,some ka0,some ka0,some ka0,some ka186,some ka185,some ka188,none,none]
def ke384 : SE := (ka186,(1,9,0,0,0))
def CN222_0 : List ND := [(0,(kl465,[],[]),787199,kc32,[1],0),
  (1,(kl465,[ke10],[]),787198,kc32,[2],0),
  (2,(kl465,[ke60,ke10],[]),787197,kc32,[3],0),
  (3,(kl465,[ke61,ke60,ke10],[]),787196,kc32,[4],0),
  (4,(kl465,[ke3,ke61,ke60,ke10],[]),787195,kc32,[5],150),
  (7,(kl465,[ke7],[]),787194,kc32,[6],0),
  (9,(kl466,[],[]),787193,kc32,[7],0),
  (10,(kl466,[ke10],[]),787192,kc32,[8],0),
  (11,(kl466,[ke60,ke10],[]),787191,kc32,[9],0),
  (12,(kl466,[ke61,ke60,ke10],[]),787190,kc32,[10],0),
  (13,(kl466,[ke3,ke61,ke60,ke10],[]),787189,kc32,[11],151),
  (16,(kl466,[ke7],[]),787188,kc32,[12],0),
  (18,(kl467,[],[]),787187,kc32,[13],0),
  (19,(kl467,[ke6],[]),787186,kc32,[14],0),
  (21,(kl468,[],[]),787185,kc32,[15],0),
  (22,(kl468,[ke6],[]),787184,kc32,[16],0),
  (24,(kl469,[],[]),787183,kc32,[17],0),
  (25,(kl469,[ke6],[]),787182,kc32,[18],0),
  (27,(kl470,[],[]),787180,kc33,[20],0),
  (29,(kl471,[ke53],[]),787202,kc32,[21],0),
  (29,(kl470,[ke375],[]),787179,kc33,[22],0),
  (30,(kl471,[ke10,ke53],[]),787201,kc32,[23],0),
  (30,(kl470,[ke10,ke375],[]),787178,kc33,[24],0),
  (33,(kl471,[ke58,ke53],[]),787200,kc32,[96,25],0),
  (33,(kl470,[ke58,ke375],[]),787177,kc33,[96,25],0),
  (36,(kl472,[],kf3),787176,kc33,[26],0),
  (37,(kl472,[ke10],kf3),787175,kc33,[28],0),
  (39,(kl471,[ke53,ke10],kf3),787211,kc32,[29],0),
  (39,(kl472,[ke325,ke10],kf3),787174,kc33,[30],0),
  (40,(kl471,[ke60,ke53,ke10],kf3),787210,kc32,[31],0),
  (40,(kl472,[ke60,ke325,ke10],kf3),787173,kc33,[32],0),
  (41,(kl471,[ke61,ke60,ke53,ke10],kf3),787209,kc32,[33],0),
  (41,(kl472,[ke61,ke60,ke325,ke10],kf3),787172,kc33,[34],0),
  (42,(kl471,[ke10,ke61,ke60,ke53,ke10],kf3),787208,kc32,[35],0),
  (42,(kl472,[ke10,ke61,ke60,ke325,ke10],kf3),787171,kc33,[36],0),
  (45,(kl471,[ke45,ke61,ke60,ke53,ke10],kf3),787207,kc32,[37],0),
  (45,(kl472,[ke45,ke61,ke60,ke325,ke10],kf3),787170,kc33,[38],0),
  (47,(kl471,[ke53,ke45,ke61,ke60,ke53,ke10],kf3),787206,kc32,[39],0),
  (47,(kl472,[ke325,ke45,ke61,ke60,ke325,ke10],kf3),787169,kc33,[40],0),
  (48,(kl471,[ke62,ke61,ke60,ke53,ke10],kf3),787205,kc32,[41],0),
  (48,(kl472,[ke47,ke61,ke60,ke325,ke10],kf3),787168,kc33,[42],0),
  (51,(kl471,[ke52,ke61,ke60,ke53,ke10],kf3),787204,kc32,[43],0),
  (51,(kl472,[ke52,ke61,ke60,ke325,ke10],kf3),787167,kc33,[44],0),
  (52,(kl471,[ke5,ke52,ke61,ke60,ke53,ke10],kf3),787203,kc32,[45],124),
  (52,(kl472,[ke5,ke52,ke61,ke60,ke325,ke10],kf3),787166,kc33,[45],124),
  (55,(kl472,[ke54],kf3),787165,kc33,[46],0),
  (57,(kl473,[],kf3),787164,kc33,[48],0),
  (59,(kl474,[ke8],kf3),787222,kc32,[49],0),
  (59,(kl473,[ke183],kf3),787163,kc33,[50],0),
  (61,(kl474,[ke360,ke8],kf3),787221,kc32,[51],0),
  (61,(kl473,[ke360,ke183],kf3),787162,kc33,[52],0),
  (62,(kl474,[ke5,ke360,ke8],kf3),787220,kc32,[53],0),
  (62,(kl473,[ke5,ke360,ke183],kf3),787161,kc33,[54],0),
  (63,(kl474,[ke65,ke8],kf3),787219,kc32,[63,55],0),
  (63,(kl473,[ke65,ke183],kf3),787160,kc33,[64,56],0),
  (66,(kl474,[ke8],kf3),787216,kc32,[57],0),
  (66,(kl473,[ke183],kf3),787159,kc33,[58],0),
  (67,(kl474,[ke5,ke8],kf3),787215,kc32,[59],0),
  (67,(kl473,[ke5,ke183],kf3),787158,kc33,[60],0),
  (69,(kl474,[ke53,ke5,ke8],kf3),787214,kc32,[61],0),
  (69,(kl473,[ke325,ke5,ke183],kf3),787157,kc33,[62],0),
  (70,(kl474,[ke5,ke8],kf3),787213,kc32,[66],0),
  (70,(kl473,[ke66,ke183],kf3),787156,kc33,[68],0),
  (73,(kl474,[ke8],kf3),787218,kc32,[65],0)]
def CN222_1 : List ND := [(73,(kl473,[ke183],kf3),787154,kc33,[67],0),
  (74,(kl474,[ke6,ke8],kf3),787217,kc32,[69],0),
  (74,(kl474,[ke5,ke8],kf3),787212,kc32,[69],0),
  (74,(kl473,[ke6,ke183],kf3),787153,kc33,[69],0),
  (74,(kl473,[ke66,ke183],kf3),787155,kc33,[69],0),
  (75,(kl473,[ke7],kf3),787152,kc33,[70],0),
  (77,(kl473,[],kf3),787151,kc33,[72],0),
  (79,(kl475,[ke216],kf3),787233,kc32,[73],0),
  (79,(kl473,[ke14],kf3),787150,kc33,[74],0),
  (81,(kl475,[ke360,ke216],kf3),787232,kc32,[75],0),
  (81,(kl473,[ke360,ke14],kf3),787149,kc33,[76],0),
  (82,(kl475,[ke56,ke360,ke216],kf3),787231,kc32,[77],0),
  (82,(kl473,[ke56,ke360,ke14],kf3),787148,kc33,[78],0),
  (83,(kl475,[ke68,ke216],kf3),787230,kc32,[87,79],0),
  (83,(kl473,[ke68,ke14],kf3),787147,kc33,[88,80],0),
  (86,(kl475,[ke216],kf3),787229,kc32,[81],0),
  (86,(kl473,[ke14],kf3),787146,kc33,[82],0),
  (87,(kl475,[ke5,ke216],kf3),787228,kc32,[83],0),
  (87,(kl473,[ke5,ke14],kf3),787145,kc33,[84],0),
  (89,(kl475,[ke53,ke5,ke216],kf3),787227,kc32,[85],0),
  (89,(kl473,[ke325,ke5,ke14],kf3),787144,kc33,[86],0),
  (90,(kl475,[ke5,ke216],kf3),787226,kc32,[90],0),
  (90,(kl473,[ke66,ke14],kf3),787143,kc33,[92],0),
  (93,(kl475,[ke216],kf3),787224,kc32,[89],0),
  (93,(kl473,[ke14],kf3),787141,kc33,[91],0),
  (94,(kl475,[ke6,ke216],kf3),787223,kc32,[93],0),
  (94,(kl475,[ke5,ke216],kf3),787225,kc32,[93],0),
  (94,(kl473,[ke6,ke14],kf3),787140,kc33,[93],0),
  (94,(kl473,[ke66,ke14],kf3),787142,kc33,[93],0),
  (95,(kl473,[ke7],kf3),787139,kc33,[94],0),
  (97,(kl473,[],kf3),787138,kc33,[95],0),
  (100,(kl476,[],kf3),787181,kc33,[18],0),
  (103,(kl470,[],[]),786521,kc32,[97],0),
  (105,(kl470,[ke183],[]),786520,kc32,[98],0),
  (106,(kl470,[ke3,ke183],[]),786519,kc32,[99],0),
  (107,(kl470,[ke41,ke3,ke183],[]),786518,kc32,[100],0),
  (108,(kl470,[ke7,ke183],[]),786517,kc32,[101],0),
  (109,(kl470,[ke7],[]),786516,kc32,[102],0),
  (111,(kl470,[],[]),786515,kc32,[103],0),
  (113,(kl470,[ke14],[]),786514,kc32,[104],0),
  (114,(kl470,[ke3,ke14],[]),786513,kc32,[105],0),
  (115,(kl470,[ke41,ke3,ke14],[]),786512,kc32,[106],0),
  (116,(kl470,[ke7,ke14],[]),786511,kc32,[107],0),
  (117,(kl470,[ke7],[]),786510,kc32,[108],0),
  (119,(kl470,[],[]),786509,kc32,[109],0),
  (120,(kl470,[ke10],[]),786508,kc32,[110],0),
  (122,(kl470,[ke4,ke10],[]),786507,kc32,[111],0),
  (124,(kl470,[ke183,ke4,ke10],[]),786506,kc32,[112],0),
  (125,(kl470,[ke7,ke10],[]),786505,kc32,[113],0),
  (127,(kl470,[ke140,ke7,ke10],[]),786504,kc32,[114],0),
  (129,(kl470,[ke14,ke140,ke7,ke10],[]),786503,kc32,[115],0),
  (130,(kl470,[ke7,ke7,ke10],[]),786502,kc32,[117,116],220),
  (133,(kl470,[ke6],[]),2,kc32,[118],0),
  (133,(kl470,[ke5],[]),786501,kc32,[120],0),
  (136,(kl470,[],[]),1,kc32,[119],0),
  (137,(kl470,[ke41],[]),0,kc32,[],0),
  (138,(kl470,[],[]),786500,kc32,[121],0),
  (140,(kl470,[ke4],[]),786499,kc32,[122],0),
  (142,(kl470,[ke183,ke4],[]),786498,kc32,[123],0),
  (143,(kl470,[ke7],[]),786497,kc32,[124],0),
  (145,(kl470,[ke140,ke7],[]),786496,kc32,[125],0),
  (147,(kl470,[ke14,ke140,ke7],[]),786495,kc32,[126],0),
  (148,(kl470,[ke7,ke7],[]),786494,kc32,[127],0),
  (149,(kl470,[ke7],[]),786493,kc32,[128],0)]
def CN222_2 : List ND := [(150,(kl470,[ke41,ke7],[]),786492,kc32,[129],0),
  (151,(kl470,[ke7],[]),786491,kc32,[130],0),
  (153,(kl477,[],[]),786490,kc32,[131],0),
  (154,(kl477,[ke41],[]),786489,kc32,[132],0),
  (156,(kl478,[],[]),786488,kc32,[133],0),
  (158,(kl478,[ke328],[]),786487,kc32,[134],0),
  (160,(kl479,[],[]),786486,kc32,[135],0),
  (161,(kl479,[ke6],[]),786485,kc32,[136],0),
  (163,(kl480,[],[]),786483,kc34,[138],0),
  (165,(kl481,[ke376],[]),787238,kc32,[139],0),
  (165,(kl480,[ke377],[]),786482,kc34,[140],0),
  (166,(kl481,[ke5,ke376],[]),787237,kc32,[141],0),
  (166,(kl480,[ke5,ke377],[]),786481,kc34,[142],0),
  (167,(kl481,[ke10,ke5,ke376],[]),787236,kc32,[143],0),
  (167,(kl480,[ke10,ke5,ke377],[]),786480,kc34,[144],0),
  (170,(kl481,[ke58,ke5,ke376],[]),787235,kc32,[145],0),
  (170,(kl480,[ke58,ke5,ke377],[]),786479,kc34,[146],0),
  (171,(kl481,[ke378,ke376],[]),787234,kc32,[147],0),
  (171,(kl480,[ke378,ke377],[]),786478,kc34,[203,147],0),
  (174,(kl482,[],[]),786477,kc34,[149],0),
  (176,(kl481,[ke376],[]),787241,kc32,[150],0),
  (176,(kl482,[ke379],[]),786476,kc34,[151],0),
  (178,(kl481,[ke232,ke376],[]),787240,kc32,[152],0),
  (178,(kl482,[ke232,ke379],[]),786475,kc34,[153],0),
  (179,(kl481,[ke6],[]),787239,kc32,[154],0),
  (179,(kl482,[ke380],[]),786474,kc34,[201,154],0),
  (182,(kl482,[],[]),786473,kc34,[156],0),
  (184,(kl481,[ke376],[]),787242,kc32,[157],221),
  (184,(kl482,[ke379],[]),786472,kc34,[157],221),
  (187,(kl482,[ke374],[]),786471,kc34,[158],0),
  (189,(kl482,[ke381,ke374],[]),786470,kc34,[160,159],0),
  (192,(kl482,[],[]),786469,kc34,[201],0),
  (195,(kl483,[],[]),786468,kc34,[161],0),
  (197,(kl483,[ke4],[]),786467,kc34,[163],0),
  (199,(kl481,[ke376,ke4],[]),787244,kc32,[165],0),
  (199,(kl483,[ke379,ke4],[]),786466,kc34,[164],0),
  (200,(kl483,[ke41,ke379,ke4],[]),786465,kc34,[166],0),
  (200,(kl481,[ke41,ke376,ke4],[]),787243,kc32,[166],0),
  (201,(kl483,[ke7,ke4],[]),786464,kc34,[167],0),
  (202,(kl483,[ke7],[]),786463,kc34,[168],0),
  (204,(kl483,[ke183,ke7],[]),786462,kc34,[170],0),
  (206,(kl481,[ke376,ke183,ke7],[]),787246,kc32,[171],0),
  (206,(kl483,[ke379,ke183,ke7],[]),786461,kc34,[172],0),
  (207,(kl481,[ke6,ke7],[]),787245,kc32,[173],0),
  (207,(kl483,[ke380,ke7],[]),786460,kc34,[173],0),
  (208,(kl483,[ke7],[]),786459,kc34,[174],0),
  (210,(kl484,[],[]),786458,kc34,[175],0),
  (212,(kl484,[ke140],[]),786457,kc34,[177],0),
  (214,(kl485,[ke376,ke140],[]),787248,kc32,[179],0),
  (214,(kl484,[ke379,ke140],[]),786456,kc34,[178],0),
  (215,(kl484,[ke41,ke379,ke140],[]),786455,kc34,[180],0),
  (215,(kl485,[ke41,ke376,ke140],[]),787247,kc32,[180],0),
  (216,(kl484,[ke7,ke140],[]),786454,kc34,[181],0),
  (217,(kl484,[ke7],[]),786453,kc34,[182],0),
  (219,(kl484,[ke14,ke7],[]),786452,kc34,[184],0),
  (221,(kl485,[ke376,ke14,ke7],[]),787250,kc32,[185],0),
  (221,(kl484,[ke379,ke14,ke7],[]),786451,kc34,[186],0),
  (222,(kl485,[ke6,ke7],[]),787249,kc32,[187],0),
  (222,(kl484,[ke380,ke7],[]),786450,kc34,[187],0),
  (223,(kl484,[ke7],[]),786449,kc34,[188],0),
  (225,(kl486,[],[]),786448,kc34,[189],0),
  (226,(kl486,[ke10],[]),786447,kc34,[190],0),
  (228,(kl486,[ke382,ke10],[]),786446,kc34,[191],0),
  (230,(kl486,[ke383,ke382,ke10],[]),786445,kc34,[193,192],220)]
def CN222_3 : List ND := [(233,(kl486,[ke6],[]),786444,kc34,[201],0),
  (233,(kl486,[ke5],[]),786443,kc34,[194],0),
  (236,(kl486,[],[]),786442,kc34,[196],0),
  (238,(kl487,[ke376],[]),787251,kc32,[197],0),
  (238,(kl486,[ke379],[]),786441,kc34,[197],0),
  (240,(kl488,[],[]),786440,kc34,[199],0),
  (242,(kl489,[ke376],[]),787252,kc32,[200],221),
  (242,(kl488,[ke379],[]),786439,kc34,[200],221),
  (245,(kl488,[ke374],[]),786438,kc34,[201],0),
  (247,(kl482,[],[]),786437,kc34,[202],0),
  (250,(kl490,[],[]),786484,kc34,[136],0),
  (253,(kl490,[],[]),4,kc32,[204],0),
  (255,(kl490,[ke384],[]),3,kc32,[],0)]
def CN222 : List (List ND) := [CN222_0, CN222_1, CN222_2, CN222_3]
theorem CK222 : chkS prot SMs SM222 [] CN222 = true := by decide +kernel
